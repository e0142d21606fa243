/**
 * All that can be learnt of an object, as one text: what is told, the text on the pad, the sights, both
 * images. Two objects that differ in anything that a call can tell give two texts. The object is used up.
 */
final class Probe {
    private final LentPiles x;
    private final StringBuilder all = new StringBuilder();

    private Probe(LentPiles x) {
        this.x = x;
    }

    static String of(LentPiles x) {
        Probe probe = new Probe(x);
        probe.text();
        probe.valley();
        probe.pad();
        probe.image(0);
        probe.image(1);
        return probe.all.toString();
    }

    private void add(long answer) {
        all.append(answer).append(' ');
    }

    private void text() {
        all.append("text ");
        add(x.told(0));
        add(x.fault());
        add(x.judge(0));
        add(x.judge(1));
        for (int i = -1; i < 4; i++) {
            add(x.filled(i));
        }
    }

    private void valley() {
        all.append("valley ");
        for (int what = 1; what < 5; what++) {
            add(x.told(what));
        }
        for (int man = 0; man < 6; man++) {
            add(x.told(10 + man));
            int debts = x.told(20 + man);
            add(debts);
            for (int i = 0; i < debts * 3; i++) {
                add(x.debt(man, i / 3, i % 3));
            }
        }
    }

    /** What is done of the pad's text and, if it stays, how it goes on with one sign more. */
    private void pad() {
        all.append("pad ");
        add(x.done());
        add(x.told(1));
        for (int man = 0; man < 6; man++) {
            add(x.told(10 + man));
        }
        add(x.say('1'));
        add(x.fault());
        add(x.wipe());
        add(x.filled(-1));
    }

    private void image(int n) {
        all.append("image ");
        add(x.restore(n));
        valley();
        add(x.filled(-1));
        add(x.seen(0, 20));
        add(x.filled(-1));
        add(x.forget());
    }
}
