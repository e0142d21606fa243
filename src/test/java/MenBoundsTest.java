import java.util.Arrays;

/**
 * Block 1 of the document and promises 1 to 6: of each bound the last number that is allowed and the
 * first that is not, on both sides; the empty and the full.
 */
public final class MenBoundsTest {
    private static final int NONE = -6, UNKNOWN = -1, OUTSIDE = -2, STATE = -3, FULL = -4, NO = -5;
    private static final int[] FAR = {Integer.MIN_VALUE, Integer.MIN_VALUE + 1, -1000, Integer.MAX_VALUE - 1,
        Integer.MAX_VALUE};

    /** A call of which one number is told. */
    private interface Ask {
        long of(LentPiles x, int v);
    }

    public static void main(String[] args) {
        aNewObject();
        menAre0To5();
        moneyIsToldAs0To999();
        moneyGoesBeyondByItself();
        aPileHoldsFive();
        aFullPileIsTheBorrowersAlone();
        theOldestIs0();
        daysAreCountedFrom0();
        rateIs0To9();
        debtsGrowOnDaysThatGoBy();
        manyDays();
        penceAre9999AtMost();
        lawIs0To2();
        ofSeveralTheLastMade();
        setTakes0And1();
        codesAre33To126();
        signsAreSixty();
        wipeOfAnyNumber();
        eachSignAtEachPlace();
        asksAreThree();
        penceAre1To99();
        faultsOfAFullPad();
        theFirstFaultIsTold();
        Check.end("MenBoundsTest");
    }

    private static void due(String what, long got, long want) {
        Check.due(what, got, want);
    }

    private static LentPiles after(String text, int parts) {
        LentPiles x = new LentPiles();
        Check.does(x, text, parts);
        return x;
    }

    private static void aNewObject() {
        LentPiles x = new LentPiles();
        due("1 barred", x.barred(), 0);
        due("1 whom", x.whom(), 0);
        due("1 fault", x.fault(), NONE);
        due("1 judge part", x.judge(0), NONE);
        due("1 judge why", x.judge(1), NONE);
        due("1 filled", x.filled(-1), 1);
        due("1 year paid", x.year(0, 99, 0), 0);
        due("1 year left", x.year(0, 99, 1), 0);
        due("1 year owed", x.year(0, 99, 2), 0);
        for (int man = 0; man < 6; man++) {
            due("1 money is 20", x.told(10 + man), 20);
            due("1 no debt", x.debt(man, 0, 0), UNKNOWN);
            due("1 nothing is due", x.due(man), NONE);
            due("1 no help is needed", x.help(man), 0);
            due("1 no ring", x.ring(man), NONE);
        }
        due("1 done", x.done(), 0);
        due("1 wipe", x.wipe(), 0);
        due("1 forget", x.forget(), 0);
        due("1 law", x.set(0, 0), 0);
        due("1 rate", x.set(1, 0), 0);
    }

    /** Of A and of F a call answers as told; of those beside them and far from them UNKNOWN. */
    private static void men(String what, Ask ask, long first, long last, long unknown) {
        LentPiles x = after("B>A1A>F1", 2);
        due(what + " of A", ask.of(x, 0), first);
        due(what + " of F", ask.of(x, 5), last);
        due(what + " of -1", ask.of(x, -1), unknown);
        due(what + " of 6", ask.of(x, 6), unknown);
        for (int man : FAR) {
            due(what + " of " + man, ask.of(x, man), unknown);
        }
    }

    private static void menAre0To5() {
        long lost = -1000000000000000000L;
        men("2 money", (x, man) -> x.money(man, 20), 20, 21, UNKNOWN);
        men("9 debt", (x, man) -> x.debt(man, 0, 0), 1, 0, UNKNOWN);
        men("10 due", (x, man) -> x.due(man), 0, 0, UNKNOWN);
        men("11 owes: who", (x, man) -> x.owes(man, 0), 0, 1, UNKNOWN);
        men("11 owes: whom", (x, man) -> x.owes(5, man), 1, 0, UNKNOWN);
        men("12 seen", (x, man) -> x.seen(man, 20), 1, 2, UNKNOWN);
        men("15 soon", (x, man) -> x.soon(man, 0), 1, 1, UNKNOWN);
        men("17 help", (x, man) -> x.help(man), 0, 0, UNKNOWN);
        men("19 ring", (x, man) -> x.ring(man), NONE, NONE, UNKNOWN);
        men("20 setOff", (x, man) -> x.setOff(man), STATE, STATE, UNKNOWN);
        men("21 give: who", (x, man) -> x.give(man, 0, 2), 1, 0, UNKNOWN);
        men("21 give: of A to him", (x, man) -> x.give(0, 0, man), UNKNOWN, 1, UNKNOWN);
        men("21 give: of F to him", (x, man) -> x.give(5, 0, man), 0, UNKNOWN, UNKNOWN);
        men("22 pawn", (x, man) -> x.pawn(man, 0), 1, 1, UNKNOWN);
        men("23 odds", (x, man) -> x.odds(man, 1, 0, 0, 0), 1, 1, lost + UNKNOWN);
        men("27 told money", (x, man) -> x.told(10 + man), 20, 21, OUTSIDE);
        men("27 told debts", (x, man) -> x.told(20 + man), 1, 1, OUTSIDE);
    }

    private static void moneyIsToldAs0To999() {
        for (int man = 0; man < 6; man++) {
            LentPiles x = new LentPiles();
            due("2 the least", x.money(man, 0), 20);
            due("2 the most", x.money(man, 999), 0);
            due("2 one too many", x.money(man, 1000), OUTSIDE);
            due("2 one too few", x.money(man, -1), OUTSIDE);
            for (int v : FAR) {
                due("2 far", x.money(man, v), OUTSIDE);
            }
            due("2 it stays", x.told(10 + man), 999);
            due("2 one below the most", x.money(man, 998), 999);
            due("2 one above the least", x.money(man, 1), 998);
            for (int other = 0; other < 6; other++) {
                due("2 nobody else's", x.told(10 + other), other == man ? 1 : 20);
            }
        }
    }

    /** 0 to 999 is what can be told; what is lent and paid adds up beyond. */
    private static void moneyGoesBeyondByItself() {
        LentPiles x = new LentPiles();
        x.money(0, 999);
        Check.does(x, "B>A1", 1);
        due("2 a borrower has 1000", x.told(10), 1000);
        due("2 which it was", x.money(0, 999), 1000);
        x.money(1, 999);
        Check.does(x, "A!", 1);
        due("2 a lender is paid up to 1000", x.told(11), 1000);
        Check.does(x, "B>C99", 1);
        due("2 and can lend of it", x.told(11), 901);
    }

    private static void aPileHoldsFive() {
        for (int man = 0; man < 6; man++) {
            for (int law = 0; law < 3; law++) {
                String lending = (char) ('A' + (man + 1) % 6) + ">" + (char) ('A' + man) + "1";
                LentPiles x = new LentPiles();
                x.set(0, law);
                Check.pad(x, lending.repeat(6));
                due("1 the sixth can not be", x.judge(0), 5);
                due("1 as the pile is full", x.judge(1), 2);
                due("1 so none is made", x.done(), NO);
                due("1 none", x.told(20 + man), 0);
                Check.does(x, lending.repeat(5), 5);
                due("1 five can be", x.told(20 + man), 5);
                Check.pad(x, lending);
                due("1 one more can not be", x.judge(1), 2);
                due("1 one more is refused", x.done(), NO);
                Check.does(x, (char) ('A' + man) + "!" + lending, 2);
                due("1 five again", x.told(20 + man), 5);
            }
        }
    }

    private static void aFullPileIsTheBorrowersAlone() {
        LentPiles x = after("A>B1".repeat(5), 5);
        Check.does(x, "B>C1B>A1", 2);
        due("1 he lends with a full pile", x.owes(2, 1), 1);
        due("21 he gives a debt away", x.give(2, 0, 0), 1);
        due("21 and one is given to him", x.give(2, 0, 1), 0);
        due("20 setting off makes room", x.setOff(0), 1);
        due("20 four are left", x.told(21), 4);
        Check.does(x, "C>B1", 1);
        due("1 five again", x.told(21), 5);
    }

    private static void theOldestIs0() {
        LentPiles x = after("A>F1.B>F2.C>F3.D>F4.E>F5", 9);
        for (int k = 0; k < 5; k++) {
            due("1 lender of " + k, x.debt(5, k, 0), k);
            due("1 pence of " + k, x.debt(5, k, 1), k + 1);
            due("1 day of " + k, x.debt(5, k, 2), k);
        }
    }

    private static void daysAreCountedFrom0() {
        LentPiles x = new LentPiles();
        due("1 no day yet", x.told(1), 0);
        Check.does(x, "", 0);
        due("1 an empty text is no day", x.told(1), 0);
        Check.does(x, "A>B1", 1);
        due("1 made on day 0", x.debt(1, 0, 2), 0);
        Check.does(x, ".A>B1", 2);
        due("1 one day", x.told(1), 1);
        due("1 made on day 1", x.debt(1, 1, 2), 1);
        Check.pad(x, ".A!");
        due("1 a text that can not be is no day", x.done(), NO);
        due("1 still one day", x.told(1), 1);
    }

    private static void rateIs0To9() {
        LentPiles x = after("A>B1", 1);
        due("3 the least", x.set(1, 0), 0);
        Check.does(x, ".", 1);
        due("3 by nothing", x.debt(1, 0, 1), 1);
        due("3 the most", x.set(1, 9), 0);
        Check.does(x, ".", 1);
        due("3 by nine", x.debt(1, 0, 1), 10);
        due("3 one too many", x.set(1, 10), OUTSIDE);
        due("3 one too few", x.set(1, -1), OUTSIDE);
        for (int v : FAR) {
            due("3 far", x.set(1, v), OUTSIDE);
        }
        due("3 the law's most is not the rate's", x.set(1, 3), 9);
        due("3 it was three", x.set(1, 8), 3);
        due("3 it is eight", x.told(3), 8);
        due("3 the law stays", x.told(2), 0);
    }

    private static void debtsGrowOnDaysThatGoBy() {
        LentPiles x = new LentPiles();
        x.set(1, 4);
        Check.does(x, "A>B1.C>D1", 3);
        due("1 made before", x.debt(1, 0, 1), 5);
        due("1 made behind", x.debt(3, 0, 1), 1);
        due("1 no money grows", x.told(11), 21);
        x.set(1, 1);
        due("1 the rate alone changes no debt", x.debt(1, 0, 1), 5);
        Check.does(x, ".", 1);
        due("1 by the rate of that day", x.debt(1, 0, 1), 6);
        due("1 each one", x.debt(3, 0, 1), 2);
        Check.does(x, "B!A>B1A>B1", 3);
        due("1 a new one in an old one's place", x.debt(1, 0, 1), 1);
        due("1 a new one above", x.debt(1, 1, 1), 1);
    }

    /** As many days as 512 calls can tell: no debt comes near its bound of 9999. */
    private static void manyDays() {
        LentPiles x = new LentPiles();
        x.set(1, 9);
        x.money(0, 99);
        Check.does(x, "A>B99", 1);
        int calls = 2 + 1 + 5 + 1;
        int days = 0;
        while (calls + 62 <= 505) {
            Check.does(x, ".".repeat(60), 60);
            calls += 62;
            days += 60;
        }
        due("1 days", x.told(1), days);
        due("1 pence", x.debt(1, 0, 1), 99 + 9 * days);
        due("1 in all", x.owes(1, 0), 99 + 9 * days);
        due("24 and a year more", x.year(0, 99, 2), 99 + 9 * (days + 99));
        due("1 made on the first", x.debt(1, 0, 2), 0);
        due("1 far from 9999", x.pawn(1, 0) < 9999 ? 1 : 0, 1);
    }

    /** No 512 calls reach this bound, so nothing is promised here; the class keeps it all the same. */
    private static void penceAre9999AtMost() {
        LentPiles x = new LentPiles();
        x.set(1, 9);
        x.money(0, 999);
        Check.does(x, "A>B99A>B98A>C1", 3);
        for (int n = 0; n < 1100; n += 50) {
            Check.does(x, ".".repeat(50), 50);
        }
        due("1 just 9999", x.debt(1, 0, 1), 9999);
        due("1 one less", x.debt(1, 1, 1), 9998);
        x.set(0, 2);
        due("1 the dearer one is due", x.due(1), 0);
        Check.does(x, ".", 1);
        due("1 no more", x.debt(1, 0, 1), 9999);
        due("1 cut", x.debt(1, 1, 1), 9999);
        due("1 below", x.debt(2, 0, 1), 1 + 9 * 1101);
        due("1 now both are of most pence", x.due(1), 1);
        due("24 three of 9999", x.year(0, 99, 2), 3 * 9999);
        due("22 both", x.pawn(1, 0), 2 * 9999);
    }

    private static void lawIs0To2() {
        LentPiles x = after("A>B1C>B3D>B2", 3);
        int[] wanted = {2, 0, 1};
        int before = 0;
        for (int law : new int[] {0, 1, 2, 0, 2, 1, 0}) {
            due("3 law", x.set(0, law), before);
            due("3 due by law " + law, x.due(1), wanted[law]);
            before = law;
        }
        due("3 one too many", x.set(0, 3), OUTSIDE);
        due("3 one too few", x.set(0, -1), OUTSIDE);
        due("3 the rate's most is not the law's", x.set(0, 9), OUTSIDE);
        for (int v : FAR) {
            due("3 far", x.set(0, v), OUTSIDE);
        }
        due("3 it stays", x.told(2), 0);
        due("3 the rate stays", x.told(3), 0);
    }

    private static void ofSeveralTheLastMade() {
        LentPiles x = after("A>B4C>B4D>B3E>B4F>B1", 5);
        x.set(0, 2);
        for (int k : new int[] {3, 1, 0, 0, 0}) {
            due("1 of most pence, the last made", x.due(1), k);
            Check.does(x, "B!", 1);
        }
        due("1 nothing is due", x.due(1), NONE);
        LentPiles y = after("A>B5C>B3B>A2", 3);
        y.set(0, 2);
        due("20 five become three", y.setOff(0), 2);
        due("1 now both are of three", y.due(1), 1);
        LentPiles z = after("A>B9C>B9D>B9E>B9F>B9", 5);
        z.set(0, 2);
        due("1 five alike", z.due(1), 4);
    }

    private static void setTakes0And1() {
        LentPiles x = new LentPiles();
        due("3 law", x.set(0, 1), 0);
        due("3 rate", x.set(1, 2), 0);
        for (int which : new int[] {-1, 2, 3, Integer.MIN_VALUE, Integer.MAX_VALUE}) {
            for (int v = 0; v < 3; v++) {
                due("3 which " + which, x.set(which, v), OUTSIDE);
            }
        }
        due("3 the law stays", x.told(2), 1);
        due("3 the rate stays", x.told(3), 2);
    }

    private static void codesAre33To126() {
        LentPiles x = new LentPiles();
        for (int sign = -2; sign <= 300; sign++) {
            boolean fine = sign >= 33 && sign <= 126;
            due("4 code " + sign, x.say(sign), fine ? 1 : OUTSIDE);
            if (fine) {
                x.wipe();
            }
        }
        for (int sign : FAR) {
            due("4 far", x.say(sign), OUTSIDE);
        }
        for (int sign : new int[] {65536 + 'A', -65536 + 'A', 65536 * 2 + '.'}) {
            due("4 no sign of 16 bits", x.say(sign), OUTSIDE);
        }
        due("4 none is left", x.told(0), 0);
    }

    private static void signsAreSixty() {
        LentPiles x = new LentPiles();
        for (int n = 1; n <= 60; n++) {
            due("4 sign " + n, x.say('.'), n);
            due("4 so many", x.told(0), n);
        }
        due("4 one too many", x.say('.'), FULL);
        due("4 again", x.say('A'), FULL);
        due("4 sixty", x.told(0), 60);
        due("4 they are as they were", x.fault(), NONE);
        due("5 sixty go", x.wipe(), 60);
        due("4 room again", x.say('A'), 1);
        due("4 the new one stands first", x.fault(), 1);
    }

    private static void wipeOfAnyNumber() {
        LentPiles x = new LentPiles();
        for (int n : new int[] {0, 1, 2, 59, 60, 0}) {
            Check.pad(x, ".".repeat(n));
            due("5 so many go", x.wipe(), n);
            due("5 none is left", x.wipe(), 0);
            due("5 the text is empty", x.fault(), NONE);
        }
        Check.pad(x, "A>B1");
        x.wipe();
        due("5 nothing is done of it", x.done(), 0);
        due("5 no debt", x.told(21), 0);
    }

    /** Behind a beginning each code: some end a text, some ask for more, all others can not stand there. */
    private static void behind(String beginning, String ending, String more) {
        int place = beginning.length();
        for (int sign = 33; sign <= 126; sign++) {
            LentPiles x = new LentPiles();
            Check.pad(x, beginning + (char) sign);
            int want = ending.indexOf(sign) >= 0 ? NONE : more.indexOf(sign) >= 0 ? place + 1 : place;
            due("6 fault of " + beginning + (char) sign, x.fault(), want);
        }
    }

    private static void eachSignAtEachPlace() {
        String begin = "ABCDEF?";
        behind("", ".", begin);
        behind(".", ".", begin);
        behind("A!", ".", begin);
        for (char c = 'A'; c <= 'F'; c++) {
            behind("" + c, "!", ">");
            behind(c + ">", "", "ABCDEF".replace("" + c, ""));
        }
        behind("?", "", ">");
        behind("?>", "", "ABCDEF");
        behind("A>B", "123456789", "");
        behind("?>F", "123456789", "");
        behind("F>E1", "0123456789.", begin);
        behind("A>B9", "0123456789.", begin);
        behind("?>C5", "0123456789.", begin);
        behind("A>B10", ".", begin);
        behind("?>B99", ".", begin);
        behind("?>A1?>A1", "0123456789.", begin);
        behind("?>A1?>A1?>A1", "0123456789.", "ABCDEF");
        behind("?>A1?>A1?>A11", ".", "ABCDEF");
        behind("?>A1?>A1?>A1.", ".", "ABCDEF");
        behind("?>A1?>A1?>A1A!", ".", "ABCDEF");
    }

    private static void faultOf(String text, int want) {
        LentPiles x = new LentPiles();
        Check.pad(x, text);
        due("6 fault of " + text, x.fault(), want);
    }

    private static void asksAreThree() {
        faultOf("?>A1", NONE);
        faultOf("?>A1?>B1", NONE);
        faultOf("?>A1?>B1?>C1", NONE);
        faultOf("?>A1?>B1?>C1?>D1", 12);
        faultOf("?>A1?>B1?>C1?", 12);
        faultOf("?>A1?>B1?", 9);
        faultOf("?>A1?>B1?>", 10);
        faultOf("?>A1.B!?>B1A>B22?>C1D>E9?>F1", 24);
        // Asks are counted anew for each text.
        LentPiles x = new LentPiles();
        Check.pad(x, "?>A1?>B1?>C1");
        due("6 three", x.fault(), NONE);
        due("6 three once more", x.fault(), NONE);
        Check.pad(x, "?>A1?>B1?>C1");
        due("6 three in the next text", x.fault(), NONE);
    }

    private static void penceAre1To99() {
        faultOf("A>B0", 3);
        faultOf("A>B00", 3);
        faultOf("A>B01", 3);
        faultOf("A>B100", 5);
        faultOf("A>B990", 5);
        for (int pence = 1; pence <= 99; pence++) {
            LentPiles x = new LentPiles();
            x.money(0, 99);
            Check.does(x, "A>B" + pence, 1);
            due("1 pence", x.debt(1, 0, 1), pence);
            due("1 the lender's", x.told(10), 99 - pence);
            due("1 the borrower's", x.told(11), 20 + pence);
        }
    }

    private static void faultsOfAFullPad() {
        faultOf("", NONE);
        faultOf(".".repeat(60), NONE);
        faultOf("A!".repeat(30), NONE);
        faultOf("A>B1".repeat(15), NONE);
        faultOf("A>B12".repeat(12), NONE);
        faultOf(".".repeat(59) + "x", 59);
        faultOf(".".repeat(59) + "A", 60);
        faultOf(".".repeat(59) + "?", 60);
        faultOf(".".repeat(58) + "A>", 60);
        faultOf(".".repeat(57) + "A>B", 60);
        faultOf(".".repeat(57) + "A>A", 59);
        faultOf(".".repeat(56) + "A>B0", 59);
        faultOf(".".repeat(56) + "A>B1", NONE);
        faultOf(".".repeat(55) + "A>B10", NONE);
        faultOf("x".repeat(60), 0);
        // What was said when the pad was full is not read.
        LentPiles x = new LentPiles();
        Check.pad(x, ".".repeat(59) + "A");
        due("4 full", x.say('!'), FULL);
        due("6 more must come", x.fault(), 60);
    }

    private static void theFirstFaultIsTold() {
        faultOf("xx", 0);
        faultOf(".x.x", 1);
        faultOf("A!A>A1A>B0", 4);
        faultOf("A>B1x>", 4);
        faultOf("AA", 1);
        faultOf("A>AA", 2);
        LentPiles x = new LentPiles();
        int[] wants = {1, 2, 3, NONE, NONE, 6, NONE, NONE, 8};
        String text = "A>B12C!.!";
        for (int i = 0; i < text.length(); i++) {
            x.say(text.charAt(i));
            due("6 behind " + text.substring(0, i + 1), x.fault(), wants[i]);
        }
        due("6 wants of " + Arrays.toString(wants), x.told(0), wants.length);
    }
}
