/**
 * Two objects with the same calls behind them. One of them gets one call more, that must change
 * nothing (or nothing but status()): behind it both must answer alike, whatever they are asked.
 */
final class Twins implements Answers {
    /** status() must stay what it was. */
    static final int STAYS = -1;

    /** What both tapes hold, so that FINISH makes two discs of it that tell items (see Items). */
    static final String BEGUN = "m1,2;p2,9", FINISH = ",0;p2,0,0;";

    interface Call {
        long on(ShaftDiscs x);
    }

    interface Scene {
        void set(Twins twins);
    }

    private final Checks checks;
    private final String words;
    private final ShaftDiscs one = new ShaftDiscs();
    private final ShaftDiscs other = new ShaftDiscs();
    private int calls = 0;

    private Twins(Checks checks, String words) {
        this.checks = checks;
        this.words = words;
    }

    /** The call answers what is due and leaves all as it was, but for status(). */
    static void leaves(Checks checks, String words, Scene scene, Call call, long want, int status) {
        Twins twins = new Twins(checks, words);
        scene.set(twins);
        checks.due(words, call.on(twins.one), want);
        int before = twins.other.status();
        checks.due(words + ", then status()", twins.one.status(), status == STAYS ? before : status);
        twins.calls += 2;
        twins.compareAll();
        checks.holds(words + ": within 512 calls, not " + twins.calls, twins.calls <= 512);
    }

    void both(Call call) {
        call.on(one);
        call.on(other);
        calls++;
    }

    void read(String text) {
        feed(text);
        both(ShaftDiscs::shaft);
    }

    void feed(String text) {
        for (int i = 0; i < text.length(); i++) {
            int letter = text.charAt(i);
            both(x -> x.feed(letter));
        }
    }

    private long same(String what, Call call) {
        long got = call.on(one);
        long want = call.on(other);
        calls++;
        checks.due(words + ", then " + what, got, want);
        return want;
    }

    private void compareAll() {
        same("fault()", ShaftDiscs::fault);
        for (int what = 0; what <= 6; what++) {
            int of = what;
            same("count(" + of + ")", x -> x.count(of));
        }
        for (int i = 0; i <= 6; i++) {
            int of = i;
            same("trace(" + of + ")", x -> x.trace(of));
        }
        compareShaft();
        long left = same("count(5)", x -> x.count(5));
        for (int act = 0; act <= left && act <= 24; act++) {
            same("undo()", ShaftDiscs::undo);
            compareShaft();
        }
        for (int k = 0; k <= 1; k++) {
            int of = k;
            same("restore(" + of + ")", x -> x.restore(of));
            compareShaft();
        }
        compareTapeAndRows();
    }

    private void compareShaft() {
        same("MARK", x -> x.count(2));
        long discs = same("DISCS", x -> x.count(1));
        for (int i = 0; i < discs; i++) {
            int disc = i;
            for (int what = J; what <= N; what++) {
                int of = what;
                same("disc(" + disc + ", " + of + ")", x -> x.disc(disc, of));
            }
            same("kind(" + disc + ")", x -> x.kind(disc));
        }
    }

    private void compareTapeAndRows() {
        long bytes = same("count(6)", x -> x.count(6));
        if (bytes == BEGUN.length()) {
            for (int i = 0; i < FINISH.length(); i++) {
                int letter = FINISH.charAt(i);
                same("feed(" + letter + ")", x -> x.feed(letter));
            }
        }
        same("shaft()", ShaftDiscs::shaft);
        same("fault()", ShaftDiscs::fault);
        compareShaft();
        for (int i = 0; i <= 7; i++) {
            int row = i;
            same("who(0, 3, " + row + ", 0, 2)", x -> x.who(0, 3, row, 0, 2));
            same("who(0, 3, " + row + ", 2, 2)", x -> x.who(0, 3, row, 2, 2));
            same("drop(" + row + ")", x -> x.drop(row));
        }
    }
}
