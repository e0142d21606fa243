import java.util.Random;

/** Any arguments in any state: no call may throw. */
public final class WildTest {
    private static final int[] ODD = {Integer.MIN_VALUE, Integer.MIN_VALUE + 1, -1000000, -7, -2, -1, 0, 1, 2, 3, 4, 5,
        6, 9, 10, 11, 12, 13, 20, 25, 33, 63, 99, 100, 126, 127, 999, 1000, 9999, 10000, 65536, Integer.MAX_VALUE - 9,
        Integer.MAX_VALUE};

    private final Random draw;
    private final LentPiles x = new LentPiles();

    private WildTest(int seed) {
        draw = new Random(seed);
    }

    public static void main(String[] args) {
        for (int seed = 0; seed < 2000; seed++) {
            WildTest test = new WildTest(seed);
            for (int call = 0; call < 512; call++) {
                test.call(call);
            }
        }
        Check.end("WildTest");
    }

    private int odd() {
        return draw.nextInt(3) == 0 ? ODD[draw.nextInt(ODD.length)] : draw.nextInt(7);
    }

    private void sayPart() {
        String signs = "ABCDEF?";
        String part = "" + signs.charAt(draw.nextInt(7)) + (draw.nextInt(3) == 0 ? "!" : ">" + signs.charAt(draw.nextInt(6))
                + (1 + draw.nextInt(20)));
        for (char c : part.toCharArray()) {
            x.say(c);
        }
    }

    private void call(int n) {
        try {
            long got = answer(draw.nextInt(30));
            Check.holds("an answer " + got, got >= -1000000000000000005L);
        } catch (RuntimeException e) {
            Check.holds("call " + n + " threw " + e, false);
        }
    }

    private long answer(int which) {
        switch (which) {
            case 0: return x.money(odd(), odd());
            case 1: return x.set(odd(), odd());
            case 2: return x.say(odd());
            case 3: return x.wipe();
            case 4: return x.fault();
            case 5: return x.judge(odd());
            case 6: return x.done();
            case 7: return x.debt(odd(), odd(), odd());
            case 8: return x.due(odd());
            case 9: return x.owes(odd(), odd());
            case 10: return x.seen(odd(), odd());
            case 11: return draw.nextInt(4) == 0 ? x.forget() : 0;
            case 12: return x.filled(odd());
            case 13: return x.soon(odd(), odd());
            case 14: return x.barred();
            case 15: return x.help(odd());
            case 16: return x.whom();
            case 17: return x.ring(odd());
            case 18: return x.setOff(odd());
            case 19: return x.give(odd(), odd(), odd());
            case 20: return x.pawn(odd(), odd());
            case 21: return x.odds(odd(), odd(), odd(), odd(), odd());
            case 22: return x.year(odd(), odd(), odd());
            case 23: return x.image(odd());
            case 24: return x.restore(odd());
            case 25: return x.told(odd());
            default:
                sayPart();
                return x.done();
        }
    }
}
