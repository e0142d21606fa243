/** Counts answers that are not as due, and says texts to a pad. */
final class Check {
    private static int wrong = 0;
    private static int asked = 0;

    private Check() {
    }

    static void due(String what, long got, long want) {
        asked++;
        if (got != want) {
            wrong++;
            System.out.println(what + " answered " + got + ", due is " + want);
        }
    }

    static void holds(String what, boolean fine) {
        due(what, fine ? 1 : 0, 1);
    }

    /** Wipes the pad and says a text. */
    static void pad(LentPiles x, String text) {
        x.wipe();
        for (int i = 0; i < text.length(); i++) {
            due("say of " + text + " at " + i, x.say(text.charAt(i)), i + 1);
        }
    }

    /** Says a text that can be and does it. */
    static void does(LentPiles x, String text, int parts) {
        pad(x, text);
        due("done of " + text, x.done(), parts);
    }

    static void end(String test) {
        System.out.println(test + ": " + asked + " answers, " + wrong + " wrong");
        if (wrong != 0) {
            System.exit(1);
        }
    }
}
