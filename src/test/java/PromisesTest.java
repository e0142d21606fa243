/** Each promise by itself: ordinary inputs, the edges that the document names, wrong inputs. */
public final class PromisesTest {
    private static final int NONE = -6, UNKNOWN = -1, OUTSIDE = -2, STATE = -3, FULL = -4, NO = -5;
    private static final long LOST = -1000000000000000000L;
    private static final int[] WRONG_MEN = {-1, 6, 7, Integer.MIN_VALUE, Integer.MAX_VALUE};

    public static void main(String[] args) {
        newObject();
        money();
        set();
        say();
        wipe();
        fault();
        judge();
        done();
        days();
        debt();
        due();
        owes();
        seen();
        forget();
        filled();
        soon();
        barred();
        help();
        whom();
        ring();
        setOff();
        give();
        pawn();
        odds();
        year();
        image();
        restore();
        told();
        refusalsChangeNothing();
        Check.end("PromisesTest");
    }

    private static void due(String what, long got, long want) {
        Check.due(what, got, want);
    }

    /** A new object in which a text of lendings has been done. */
    private static LentPiles after(String text, int parts) {
        LentPiles x = new LentPiles();
        Check.does(x, text, parts);
        return x;
    }

    private static void newObject() {
        LentPiles x = new LentPiles();
        for (int what = 0; what <= 4; what++) {
            due("1 told " + what, x.told(what), 0);
        }
        for (int man = 0; man < 6; man++) {
            due("1 money", x.told(10 + man), 20);
            due("1 debts", x.told(20 + man), 0);
            due("1 due", x.due(man), NONE);
            for (int other = 0; other < 6; other++) {
                due("1 owes", x.owes(man, other), 0);
            }
        }
        due("1 image 0", x.restore(0), STATE);
        due("1 image 1", x.restore(1), STATE);
        due("1 NONE", LentPiles.NONE, NONE);
        due("1 UNKNOWN", LentPiles.UNKNOWN, UNKNOWN);
        due("1 OUTSIDE", LentPiles.OUTSIDE, OUTSIDE);
        due("1 STATE", LentPiles.STATE, STATE);
        due("1 FULL", LentPiles.FULL, FULL);
        due("1 NO", LentPiles.NO, NO);
        due("1 LOST", LentPiles.LOST, LOST);
    }

    private static void money() {
        LentPiles x = new LentPiles();
        due("2 first", x.money(0, 999), 20);
        due("2 then", x.money(0, 0), 999);
        due("2 again", x.money(0, 7), 0);
        due("2 told", x.told(10), 7);
        due("2 last man", x.money(5, 1), 20);
        due("2 over", x.money(0, 1000), OUTSIDE);
        due("2 under", x.money(0, -1), OUTSIDE);
        due("2 both wrong", x.money(6, 1000), UNKNOWN);
        for (int man : WRONG_MEN) {
            due("2 unknown", x.money(man, 5), UNKNOWN);
        }
        due("2 kept", x.told(10), 7);
        x.money(0, 999);
        x.money(1, 999);
        Check.does(x, "A>B99", 1);
        due("2 money grows beyond what can be told", x.money(1, 3), 1098);
    }

    private static void set() {
        LentPiles x = new LentPiles();
        due("3 law", x.set(0, 2), 0);
        due("3 law", x.set(0, 1), 2);
        due("3 law", x.set(0, 0), 1);
        due("3 rate", x.set(1, 9), 0);
        due("3 rate", x.set(1, 0), 9);
        due("3 rate", x.set(1, 4), 0);
        int[][] wrong = {{0, 3}, {0, -1}, {1, 10}, {1, -1}, {2, 0}, {-1, 0}, {Integer.MAX_VALUE, 0}};
        for (int[] w : wrong) {
            due("3 wrong " + w[0] + " " + w[1], x.set(w[0], w[1]), OUTSIDE);
        }
        due("3 law kept", x.told(2), 0);
        due("3 rate kept", x.told(3), 4);
    }

    private static void say() {
        LentPiles x = new LentPiles();
        for (int sign : new int[] {32, 127, 0, -1, 256 + 65, 65536 + 65, Integer.MIN_VALUE}) {
            due("4 outside " + sign, x.say(sign), OUTSIDE);
        }
        for (int i = 1; i <= 60; i++) {
            due("4 say", x.say(i % 2 == 0 ? 33 : 126), i);
        }
        due("4 full", x.say(65), FULL);
        due("4 outside before full", x.say(32), OUTSIDE);
        due("4 kept", x.told(0), 60);
    }

    private static void wipe() {
        LentPiles x = new LentPiles();
        due("5 empty", x.wipe(), 0);
        Check.pad(x, "xyz");
        due("5 three", x.wipe(), 3);
        due("5 gone", x.told(0), 0);
        due("5 no fault of old signs", x.fault(), NONE);
    }

    private static void faultOf(String text, int place) {
        LentPiles x = new LentPiles();
        Check.pad(x, text);
        due("6 fault of " + text, x.fault(), place);
        due("6 signs of " + text, x.told(0), text.length());
    }

    private static void fault() {
        String[] fine = {"", ".", "..", "A!", "A>B1", "A>B10", "A>B99", "F>E9", "?>A5", "?>F12?>F1?>F1",
            "A>B5.B!C>D12A!", "A!B!C!D!E!F!", "A>B1?>A2"};
        for (String text : fine) {
            faultOf(text, NONE);
        }
        String[] wrong = {"G", "a", "!", ">", "1", "x", "@", "A>B5x", "A>B123", "A>B0", "A>A", "A>A5", "A>G1",
            "A>?1", "A>!", "AB", "A.", "A1", "A??", "?!", "?.", "?A", "?>?", "?>A0", "A!!", "A!1", ".1", "A>B.",
            "A>B1!", "A>B1>", "?>A1?>A1?>A1?", "?>A1?>A1?>A1?>A1", "?>A1?>A1?>A1A>B1?"};
        int[] places = {0, 0, 0, 0, 0, 0, 0, 4, 5, 3, 2, 2, 2,
            2, 2, 1, 1, 1, 1, 1, 1, 1, 2, 3, 2, 2, 1, 3,
            4, 4, 12, 12, 16};
        for (int i = 0; i < wrong.length; i++) {
            faultOf(wrong[i], places[i]);
        }
        String[] more = {"A", "A>", "A>B", "?", "?>", "?>C", ".A", "A!B", "A>B5C", "A>B5?>"};
        for (String text : more) {
            faultOf(text, text.length());
        }
        faultOf(".".repeat(60), NONE);
        faultOf("A!".repeat(29) + ".A", 60);
    }

    private static void judged(LentPiles x, String text, int part, int why) {
        Check.pad(x, text);
        due("7 part of " + text, x.judge(0), part);
        due("7 why of " + text, x.judge(1), why);
    }

    private static void judge() {
        LentPiles x = new LentPiles();
        judged(x, "", NONE, NONE);
        judged(x, "A>B20", NONE, NONE);
        judged(x, "A>B21", 0, 1);
        judged(x, "A>B20.A>B1", 2, 1);
        judged(x, "C>B1C>B1C>B1C>B1C>B1C>B1", 5, 2);
        judged(x, "A>B20C>B1C>B1C>B1C>B1A>B1", 5, 1);
        judged(x, "A!", 0, 3);
        judged(x, "A>B5B!B!", 2, 3);
        judged(x, "A>B20B>C21B!", 2, 4);
        judged(x, "A>B20B>C20B>C20B!", 3, 4);
        judged(x, "A>B5B>A25", NONE, NONE);
        judged(x, "A>B5B>A25A!A!", 3, 3);
        due("7 nothing is done", x.told(21), 0);
        due("7 nothing is paid", x.told(10), 20);
        due("7 outside", x.judge(2), OUTSIDE);
        due("7 outside", x.judge(-1), OUTSIDE);
        Check.pad(x, "A>B");
        due("7 outside before a fault", x.judge(2), OUTSIDE);
        due("7 a fault", x.judge(0), NO);
        due("7 a fault", x.judge(1), NO);
        Check.pad(x, "?>");
        due("7 a fault before ?", x.judge(0), NO);
        Check.pad(x, "A>B21?>C1");
        due("7 some ?", x.judge(0), STATE);
        due("7 some ?", x.judge(1), STATE);
        x.set(1, 1);
        x.money(1, 0);
        judged(x, "A>B20..B!", 3, 4);
        judged(x, "A>B20B!", NONE, NONE);
    }

    private static void done() {
        LentPiles x = new LentPiles();
        due("8 empty", x.done(), 0);
        Check.does(x, "A>B5.C>B7B!", 4);
        due("8 pad is empty", x.told(0), 0);
        due("8 A", x.told(10), 15);
        due("8 B", x.told(11), 25);
        due("8 C", x.told(12), 20);
        due("8 days", x.told(1), 1);
        due("8 pile", x.told(21), 1);
        for (String text : new String[] {"A>B", "x", "A>B16", "C!", "A>B15A>B1", "?!"}) {
            Check.pad(x, text);
            due("8 refused " + text, x.done(), NO);
            due("8 signs stay " + text, x.told(0), text.length());
        }
        Check.pad(x, "A>B99?>C1");
        due("8 some ?", x.done(), STATE);
        due("8 A kept", x.told(10), 15);
        due("8 pile kept", x.told(21), 1);
        LentPiles y = after("A>B1A>B1A>B1A>B1A>B1", 5);
        Check.pad(y, "A>B1");
        due("8 full pile", y.done(), NO);
        Check.does(y, "B!A>B2", 2);
        due("8 five again", y.told(21), 5);
    }

    private static void days() {
        LentPiles x = new LentPiles();
        x.set(1, 9);
        Check.does(x, "A>B5..A>B3.", 5);
        due("days debt 0", x.debt(1, 0, 1), 32);
        due("days debt 1", x.debt(1, 1, 1), 12);
        due("days made 0", x.debt(1, 0, 2), 0);
        due("days made 1", x.debt(1, 1, 2), 2);
        due("days rate of a new debt", x.told(1), 3);
        Check.does(x, "A>C1", 1);
        due("days not yet grown", x.debt(2, 0, 1), 1);
        x.set(1, 0);
        Check.does(x, ".".repeat(60), 60);
        due("days no rate", x.debt(1, 0, 1), 32);
        due("days counted", x.told(1), 63);
    }

    private static void debt() {
        LentPiles x = after("A>B5.C>B7", 3);
        int[][] want = {{0, 5, 0}, {2, 7, 1}};
        for (int k = 0; k < 2; k++) {
            for (int what = 0; what < 3; what++) {
                due("9 debt " + k + " " + what, x.debt(1, k, what), want[k][what]);
            }
        }
        for (int man : WRONG_MEN) {
            due("9 man", x.debt(man, 0, 0), UNKNOWN);
        }
        for (int k : new int[] {-1, 2, 5, Integer.MIN_VALUE, Integer.MAX_VALUE}) {
            due("9 debt", x.debt(1, k, 0), UNKNOWN);
        }
        due("9 nobody's", x.debt(0, 0, 0), UNKNOWN);
        due("9 what", x.debt(1, 0, 3), OUTSIDE);
        due("9 what", x.debt(1, 0, -1), OUTSIDE);
        due("9 both", x.debt(1, 2, 3), UNKNOWN);
        x.set(0, 1);
        Check.does(x, "B!", 1);
        due("9 the younger moves down", x.debt(1, 0, 0), 2);
        due("9 its day too", x.debt(1, 0, 2), 1);
        due("9 one is left", x.debt(1, 1, 0), UNKNOWN);
    }

    private static void due() {
        LentPiles x = after("A>B5C>B9D>B9E>B2", 4);
        due("10 last", x.due(1), 3);
        x.set(0, 1);
        due("10 oldest", x.due(1), 0);
        x.set(0, 2);
        due("10 dearest, the last made", x.due(1), 2);
        Check.does(x, "B!", 1);
        due("10 the other one", x.due(1), 1);
        Check.does(x, "B!", 1);
        due("10 five", x.due(1), 0);
        due("10 none", x.due(0), NONE);
        for (int man : WRONG_MEN) {
            due("10 man", x.due(man), UNKNOWN);
        }
    }

    private static void owes() {
        LentPiles x = after("A>B5C>B9A>B3", 3);
        due("11 in all", x.owes(1, 0), 8);
        due("11 the other", x.owes(1, 2), 9);
        due("11 not back", x.owes(0, 1), 0);
        due("11 himself", x.owes(1, 1), 0);
        for (int man : WRONG_MEN) {
            due("11 man", x.owes(man, 0), UNKNOWN);
            due("11 other", x.owes(0, man), UNKNOWN);
            due("11 both", x.owes(man, man), UNKNOWN);
        }
    }

    private static void seen() {
        LentPiles x = new LentPiles();
        due("12 over", x.seen(0, 10000), OUTSIDE);
        due("12 under", x.seen(0, -1), OUTSIDE);
        due("12 both", x.seen(6, -1), UNKNOWN);
        for (int man : WRONG_MEN) {
            due("12 man", x.seen(man, 0), UNKNOWN);
        }
        for (int i = 1; i <= 6; i++) {
            due("12 sight", x.seen(i % 2 * 5, i % 2 * 9999), i);
        }
        due("12 full", x.seen(0, 0), FULL);
        due("12 outside before full", x.seen(0, 10000), OUTSIDE);
        due("12 unknown before full", x.seen(6, 0), UNKNOWN);
        due("12 six", x.told(4), 6);
    }

    private static void forget() {
        LentPiles x = new LentPiles();
        due("13 none", x.forget(), 0);
        x.seen(0, 1);
        x.seen(0, 1);
        due("13 two", x.forget(), 2);
        due("13 gone", x.told(4), 0);
        due("13 all ways again", x.filled(-1), 1);
    }

    private static void filledIs(LentPiles x, String text, int... want) {
        Check.pad(x, text);
        for (int i = 0; i < want.length; i++) {
            due("14 " + text + " " + (i - 1), x.filled(i - 1), want[i]);
        }
    }

    private static void filled() {
        LentPiles x = new LentPiles();
        filledIs(x, "", 1, NONE);
        filledIs(x, "A>B5", 1, NONE);
        filledIs(x, "A>B21", 0, NONE);
        filledIs(x, "?>A5", 5, 1, NONE);
        filledIs(x, "?>B1?>B1?>B1", 125, 0, 0, 0, NONE);
        filledIs(x, "?>A1?>B1?>A1", 125, 1, 0, 1, NONE);
        filledIs(x, "?>A21", 0, NONE, NONE);
        filledIs(x, "?>A20?>B20", 21, 1, 0, NONE);
        due("14 far", x.filled(Integer.MAX_VALUE), NONE);
        due("14 under", x.filled(-2), NONE);
        filledIs(x, "?>A", NO, NO, NO);
        due("14 a fault before a wrong number", x.filled(-2), NO);
        x.seen(3, 13);
        filledIs(x, "?>A5?>A2", 1, 3, 3, NONE);
        x.seen(3, 14);
        filledIs(x, "?>A5?>A2", 0, NONE, NONE);
        x.forget();
        x.seen(0, 20);
        filledIs(x, "", 1, NONE);
        x.seen(1, 19);
        filledIs(x, "", 0, NONE);
        x.forget();
        x.set(1, 2);
        x.seen(4, 24);
        filledIs(x, "?>A5..A!", 1, 4, NONE);
        filledIs(x, "?>A5..A!?>B3", 4, 4, 0, NONE);
        filledIs(x, "?>A5.A!", 0, NONE, NONE);
        due("14 nothing is done", x.told(20), 0);
    }

    private static void soonIs(LentPiles x, int man, int... want) {
        for (int k = 0; k < want.length; k++) {
            due("15 soon " + man + " " + k, x.soon(man, k), want[k]);
        }
    }

    private static void soon() {
        LentPiles x = after("A>B5A>B6A>B7", 3);
        soonIs(x, 1, 3, 2, 1, UNKNOWN);
        x.set(0, 1);
        soonIs(x, 1, 1, 2, 3);
        x.set(0, 2);
        soonIs(x, 1, 3, 2, 1);
        x.money(1, 13);
        soonIs(x, 1, NONE, 2, 1);
        x.set(0, 0);
        // C pays B the one pence that he lacks, but only below a debt to D.
        LentPiles y = after("A>B5B>C4D>C3", 3);
        y.money(1, 1);
        soonIs(y, 1, 3);
        soonIs(y, 2, 2, 1);
        y.set(0, 1);
        soonIs(y, 1, 2);
        y.money(2, 6);
        soonIs(y, 2, 1, NONE);
        // Two ways to get money: by one dear debt of E, or by two cheap ones of D.
        LentPiles z = after("A>B9B>D5B>D4B>E9C>E1C>E1", 6);
        z.money(1, 0);
        soonIs(z, 1, 3);
        z.money(4, 0);
        soonIs(z, 1, 3);
        z.money(3, 5);
        soonIs(z, 1, NONE);
        for (int man : WRONG_MEN) {
            due("15 man", x.soon(man, 0), UNKNOWN);
        }
        due("15 debt", x.soon(1, -1), UNKNOWN);
        due("15 nobody's", x.soon(0, 0), UNKNOWN);
        due("15 nothing is paid", x.told(21), 3);
    }

    private static void barred() {
        LentPiles x = after("A>B5B>C5C>D5", 3);
        due("16 nobody", x.barred(), 0);
        x.money(1, 0);
        x.money(2, 0);
        due("16 D pays all", x.barred(), 0);
        x.money(3, 4);
        due("16 B, C and D", x.barred(), 14);
        x.money(2, 5);
        due("16 only D", x.barred(), 8);
        due("16 nothing is paid", x.told(21), 1);
        due("16 nobody owes", new LentPiles().barred(), 0);
    }

    private static void help() {
        LentPiles x = after("A>B5B>C5C>D5", 3);
        due("17 nothing needed", x.help(5), 0);
        x.money(1, 0);
        x.money(2, 0);
        x.money(3, 1);
        due("17 the chain", x.help(3), 4);
        due("17 too low", x.help(2), NONE);
        due("17 no debts", x.help(0), NONE);
        for (int man : WRONG_MEN) {
            due("17 man", x.help(man), UNKNOWN);
        }
        // What he pays comes back by a ring, so he needs less than he owes.
        LentPiles y = after("C>A8B>A8A>B8", 3);
        y.money(0, 0);
        y.money(1, 0);
        due("17 A", y.help(0), 8);
        due("17 B, which leaves A's other debt", y.help(1), NONE);
        due("17 nothing is given", y.told(10), 0);
        LentPiles z = after("A>B9C>B9A>B9", 3);
        z.money(1, 10);
        due("17 several lacks", z.help(1), 17);
    }

    private static void whom() {
        LentPiles x = new LentPiles();
        due("18 all are free", x.whom(), 0);
        Check.does(x, "A>B9B>A9", 2);
        x.money(0, 0);
        x.money(1, 0);
        due("18 of two the first", x.whom(), 0);
        x.money(1, 1);
        due("18 B", x.whom(), 1);
        x.money(0, 2);
        due("18 A", x.whom(), 0);
        Check.does(x, "C>D9", 1);
        x.money(3, 0);
        due("18 nobody", x.whom(), NONE);
        due("18 nothing is given", x.told(13), 0);
    }

    private static void ring() {
        LentPiles x = after("A>B5B>C4C>A3C>D2", 4);
        due("19 A", x.ring(0), 7);
        due("19 B", x.ring(1), 7);
        due("19 C", x.ring(2), 7);
        due("19 D leads into a ring that is not his", x.ring(3), NONE);
        due("19 E", x.ring(4), NONE);
        Check.does(x, "F>A1", 1);
        due("19 another is due", x.ring(0), NONE);
        x.set(0, 2);
        due("19 by another law", x.ring(0), 7);
        for (int man : WRONG_MEN) {
            due("19 man", x.ring(man), UNKNOWN);
        }
        LentPiles y = after("A>B1B>C1C>D1D>E1E>F1F>A1", 6);
        due("19 all", y.ring(3), 63);
    }

    private static void setOff() {
        LentPiles x = after("A>B5B>C4C>A3C>D2", 4);
        due("20 no ring", x.setOff(3), STATE);
        due("20 least", x.setOff(1), 3);
        due("20 B owes", x.owes(1, 0), 2);
        due("20 C owes", x.owes(2, 1), 1);
        due("20 A is free", x.told(20), 0);
        due("20 no ring any more", x.setOff(1), STATE);
        due("20 D's stays", x.owes(3, 2), 2);
        due("20 money stays", x.told(10), 18);
        for (int man : WRONG_MEN) {
            due("20 man", x.setOff(man), UNKNOWN);
        }
        LentPiles y = after("A>B5C>B5B>A5", 3);
        y.set(0, 1);
        due("20 both are gone", y.setOff(0), 5);
        due("20 one is left", y.told(21), 1);
        due("20 of C", y.debt(1, 0, 0), 2);
        due("20 none of A", y.told(20), 0);
    }

    private static void give() {
        LentPiles x = after("A>B5C>B7", 2);
        due("21 who it was", x.give(1, 0, 3), 0);
        due("21 new lender", x.debt(1, 0, 0), 3);
        due("21 pence stay", x.debt(1, 0, 1), 5);
        due("21 to the same", x.give(1, 0, 3), 3);
        due("21 to who owes it", x.give(1, 0, 1), UNKNOWN);
        for (int man : WRONG_MEN) {
            due("21 man", x.give(man, 0, 0), UNKNOWN);
            due("21 other", x.give(1, 0, man), UNKNOWN);
        }
        due("21 debt", x.give(1, 2, 0), UNKNOWN);
        due("21 debt", x.give(1, -1, 0), UNKNOWN);
        due("21 kept", x.debt(1, 0, 0), 3);
        Check.does(x, "B!B!", 2);
        due("21 paid to the new one", x.told(13), 25);
        due("21 not to the old one", x.told(10), 15);
    }

    private static void pawnIs(LentPiles x, int man, int... want) {
        for (int k = 0; k < want.length; k++) {
            due("22 pawn " + man + " " + k, x.pawn(man, k), want[k]);
        }
    }

    private static void pawn() {
        LentPiles x = after("A>B5C>B9D>B9E>B2", 4);
        pawnIs(x, 1, 25, 20, 11, 2, UNKNOWN);
        x.set(0, 1);
        pawnIs(x, 1, 5, 14, 23, 25);
        x.set(0, 2);
        pawnIs(x, 1, 23, 18, 9, 25);
        x.money(1, 0);
        pawnIs(x, 1, 23, 18, 9, 25);
        due("22 under", x.pawn(1, -1), UNKNOWN);
        due("22 nobody's", x.pawn(0, 0), UNKNOWN);
        for (int man : WRONG_MEN) {
            due("22 man", x.pawn(man, 0), UNKNOWN);
        }
    }

    private static void oddsAre(LentPiles x, int[] args, long upper, long lower) {
        String what = "23 odds " + java.util.Arrays.toString(args);
        due(what, x.odds(args[0], args[1], args[2], args[3], 0), upper);
        due(what, x.odds(args[0], args[1], args[2], args[3], 1), lower);
    }

    private static void odds() {
        LentPiles x = after("A>B10", 1);
        oddsAre(x, new int[] {1, 1, 0, 0}, 1, 1);
        x.money(1, 9);
        oddsAre(x, new int[] {1, 1, 0, 10}, 0, 1);
        oddsAre(x, new int[] {1, 1, 1, 0}, 0, 1);
        oddsAre(x, new int[] {1, 1, 1, 10}, 1, 1);
        oddsAre(x, new int[] {1, 1, 1, 4}, 2, 5);
        oddsAre(x, new int[] {1, 1, 12, 5}, 4095, 4096);
        oddsAre(x, new int[] {1, 1, 12, 1}, 717570463519L, 1000000000000L);
        oddsAre(x, new int[] {1, 99, 12, 3}, 986158712799L, 1000000000000L);
        x.money(1, 7);
        oddsAre(x, new int[] {1, 2, 3, 5}, 1, 2);
        x.set(1, 1);
        oddsAre(x, new int[] {1, 2, 3, 5}, 1, 8);
        oddsAre(x, new int[] {1, 1, 3, 10}, 0, 1);
        Check.does(x, "C>B2", 1);
        oddsAre(x, new int[] {1, 1, 0, 0}, 1, 1);
        x.set(0, 2);
        oddsAre(x, new int[] {1, 1, 0, 0}, 0, 1);
        due("23 nothing is due", x.odds(0, 1, 0, 0, 0), LOST + STATE);
        int[][] wrong = {{1, 0, 1, 1, 0}, {1, 100, 1, 1, 0}, {1, 1, -1, 1, 0}, {1, 1, 13, 1, 0},
            {1, 1, 1, -1, 0}, {1, 1, 1, 11, 0}, {1, 1, 1, 1, -1}, {1, 1, 1, 1, 2}, {0, 0, 1, 1, 0}};
        for (int[] w : wrong) {
            due("23 outside", x.odds(w[0], w[1], w[2], w[3], w[4]), LOST + OUTSIDE);
        }
        for (int man : WRONG_MEN) {
            due("23 man", x.odds(man, 0, 0, 0, 0), LOST + UNKNOWN);
        }
        due("23 no day goes by", x.told(1), 0);
    }

    private static void year() {
        LentPiles x = after("A>B20B>C20", 2);
        // x is 74, so C earns 4; then 5624, so C earns 2.
        due("24 paid", x.year(0, 1, 0), 1);
        due("24 left", x.year(0, 1, 1), 1);
        due("24 owed", x.year(0, 1, 2), 20);
        x.money(2, 0);
        due("24 too poor", x.year(0, 1, 0), 0);
        x.money(2, 15);
        due("24 earns too little", x.year(0, 1, 0), 0);
        due("24 earns more on the next day", x.year(0, 2, 0), 1);
        x.money(2, 16);
        due("24 earns just enough", x.year(0, 1, 0), 1);
        x.money(2, 0);
        x.set(1, 9);
        due("24 grown", x.year(0, 1, 2), 58);
        due("24 grown", x.year(0, 2, 2), 76);
        int[][] wrong = {{-1, 1, 0}, {10000, 1, 0}, {0, 0, 0}, {0, 100, 0}, {0, 1, -1}, {0, 1, 3}};
        for (int[] w : wrong) {
            due("24 outside", x.year(w[0], w[1], w[2]), OUTSIDE);
        }
        due("24 nothing is done", x.told(1), 0);
        due("24 nothing is paid", x.told(22), 1);
        due("24 nothing is earned", x.told(12), 0);
    }

    private static void image() {
        LentPiles x = new LentPiles();
        due("25 under", x.image(-1), OUTSIDE);
        due("25 over", x.image(2), OUTSIDE);
        due("25 far", x.image(32), OUTSIDE);
        due("25 first", x.image(0), 1);
        x.money(0, 5);
        due("25 second", x.image(1), 1);
        x.money(0, 6);
        due("25 over the first", x.image(0), 1);
        x.money(0, 7);
        x.restore(1);
        due("25 of the second", x.told(10), 5);
        x.restore(0);
        due("25 of the first", x.told(10), 6);
    }

    private static void restore() {
        LentPiles x = after("A>B5.C>B7", 3);
        due("26 not kept", x.restore(0), STATE);
        due("26 under", x.restore(-1), OUTSIDE);
        due("26 over", x.restore(2), OUTSIDE);
        x.set(0, 1);
        x.set(1, 3);
        x.seen(0, 1);
        x.image(1);
        due("26 the other is not kept", x.restore(0), STATE);
        x.forget();
        x.set(0, 0);
        x.set(1, 0);
        Check.does(x, "B!B!..", 4);
        Check.pad(x, "A!");
        due("26 restore", x.restore(1), 1);
        due("26 pad stays", x.told(0), 2);
        due("26 days", x.told(1), 1);
        due("26 law", x.told(2), 1);
        due("26 rate", x.told(3), 3);
        due("26 sights", x.told(4), 1);
        due("26 pile", x.told(21), 2);
        due("26 money", x.told(11), 32);
        due("26 debt", x.debt(1, 1, 2), 1);
        Check.does(x, "B!", 1);
        due("26 again", x.restore(1), 1);
        due("26 pile again", x.told(21), 2);
        x.wipe();
        x.forget();
        x.seen(1, 32);
        due("26 sights hold what was seen", x.filled(-1), 1);
        x.restore(1);
        due("26 the sight that was kept", x.filled(-1), 0);
    }

    private static void told() {
        LentPiles x = after("A>B5.C>B7", 3);
        Check.pad(x, "zz");
        x.set(0, 2);
        x.set(1, 8);
        x.seen(0, 0);
        int[] want = {2, 1, 2, 8, 1};
        for (int i = 0; i < want.length; i++) {
            due("27 told " + i, x.told(i), want[i]);
        }
        int[] moneys = {15, 32, 13, 20, 20, 20};
        int[] debts = {0, 2, 0, 0, 0, 0};
        for (int man = 0; man < 6; man++) {
            due("27 money", x.told(10 + man), moneys[man]);
            due("27 debts", x.told(20 + man), debts[man]);
        }
        for (int what : new int[] {-1, 5, 9, 16, 19, 26, 30, Integer.MIN_VALUE, Integer.MIN_VALUE + 9,
            Integer.MAX_VALUE}) {
            due("27 outside " + what, x.told(what), OUTSIDE);
        }
    }

    /** A text of all that can be told of an object. */
    private static String allOf(LentPiles x) {
        StringBuilder all = new StringBuilder();
        for (int what = 0; what < 26; what++) {
            all.append(x.told(what)).append(' ');
        }
        for (int i = 0; i < 6 * 5 * 3; i++) {
            all.append(x.debt(i / 15, i / 3 % 5, i % 3)).append(' ');
        }
        return all.toString();
    }

    private static void refusalsChangeNothing() {
        LentPiles x = after("A>B5.C>B7B>A3", 4);
        Check.pad(x, "A>B50");
        String before = allOf(x);
        x.money(0, 1000);
        x.money(6, 1);
        x.set(0, 3);
        x.set(1, 10);
        x.set(2, 1);
        x.say(32);
        x.judge(2);
        x.judge(0);
        x.done();
        x.seen(0, -1);
        x.filled(7);
        x.setOff(0);
        x.give(1, 0, 1);
        x.odds(1, 1, 12, 5, 0);
        x.year(5, 99, 0);
        x.image(2);
        x.restore(1);
        Check.holds("nothing changed", before.equals(allOf(x)));
    }
}
