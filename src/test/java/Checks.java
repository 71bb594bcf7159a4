/** Counts the answers that are not as due, for the tests that use it. */
final class Checks {
    private int wrong = 0;
    private int made = 0;

    void due(String call, long got, long want) {
        made++;
        if (got != want) {
            wrong++;
            if (wrong <= 40) {
                System.out.println(call + " answered " + got + ", due is " + want);
            }
        }
    }

    void holds(String what, boolean so) {
        due(what, so ? 1 : 0, 1);
    }

    boolean anyWrong() {
        return wrong > 0;
    }

    void end(String name) {
        System.out.println(name + ": " + made + " answers looked at, " + wrong + " not as due");
        if (wrong > 0) {
            System.exit(1);
        }
    }

    static void feed(ShaftDiscs x, String text) {
        for (int i = 0; i < text.length(); i++) {
            x.feed(text.charAt(i));
        }
    }

    static int read(ShaftDiscs x, String text) {
        feed(x, text);
        return x.shaft();
    }

    static ShaftDiscs shaftOf(String text) {
        ShaftDiscs x = new ShaftDiscs();
        if (read(x, text) < 0) {
            System.out.println("no shaft: " + text + " (fault " + x.fault() + ")");
        }
        return x;
    }
}
