/** Terms 2 (RATIO to TIE, ACTS) and promises 9 to 14, 27, 28: limits of what is told, acts, images. */
public final class EdgeActsTest implements Answers {
    private static final Checks C = new Checks();

    public static void main(String[] args) {
        limitsOfChange();
        kinds();
        marks();
        swaps();
        eachSortIsUndone();
        twentyFour();
        whatForgetsActs();
        whatLeavesActs();
        ratios();
        weightsSpringsTies();
        images();
        C.end("EdgeActsTest");
    }

    private static void due(String call, long got, long want) {
        C.due(call, got, want);
    }

    private static void limitsOfChange() {
        int[] least = {1, 0, 0};
        int[] most = {5, 40, 9};
        for (int disc = 0; disc < 6; disc++) {
            ShaftDiscs x = Checks.shaftOf(EACH);
            for (int which = J; which <= N; which++) {
                int was = x.disc(disc, which);
                int kept = x.count(5);
                due("10 below the least", x.change(disc, which, least[which] - 1), BAD);
                due("10 above the most", x.change(disc, which, most[which] + 1), BAD);
                due("10 far below", x.change(disc, which, LEAST), BAD);
                due("10 far above", x.change(disc, which, MOST), BAD);
                due("10 refused: no ACT", x.count(5), kept);
                due("10 refused: as it was", x.disc(disc, which), was);
                due("10 the least", x.change(disc, which, least[which]), was);
                due("10 it is that", x.disc(disc, which), least[which]);
                due("10 the most", x.change(disc, which, most[which]), least[which]);
                due("10 it is that", x.disc(disc, which), most[which]);
                due("10 two ACTS", x.count(5), kept + 2);
            }
            for (int other = 0; other < 6; other++) {
                if (other != disc) {
                    ShaftDiscs y = Checks.shaftOf(EACH);
                    for (int which = J; which <= N; which++) {
                        due("10 of no other one", x.disc(other, which), y.disc(other, which));
                    }
                }
            }
        }
        ShaftDiscs x = Checks.shaftOf(PAIR);
        for (int disc : new int[] {-1, 2, 6, LEAST, MOST}) {
            due("10 no DISC " + disc, x.change(disc, J, 1), BAD);
            due("11 no DISC " + disc, x.become(disc, GEARED), BAD);
            due("13 no DISC " + disc, x.swap(disc, 0), BAD);
            due("13 no DISC " + disc, x.swap(1, disc), BAD);
            due("14 no DISC " + disc, x.disc(disc, 0), BAD);
        }
        for (int which : new int[] {-1, 3, LEAST, MOST}) {
            due("10 no such one " + which, x.change(0, which, 1), BAD);
        }
        for (int what : new int[] {-1, 7, LEAST, MOST}) {
            due("14 no such one " + what, x.disc(0, what), BAD);
        }
        due("10 no ACTS", x.count(5), 0);
        due("34 nothing is told of these", x.status(), 0);
    }

    private static void kinds() {
        ShaftDiscs x = Checks.shaftOf(EACH);
        for (int kind = PLAIN; kind <= SLIPPING; kind++) {
            int was = x.kind(0);
            int kept = x.count(5);
            if (was == kind) {
                due("11 it is that", x.become(0, kind), STATE);
                due("11 no ACT", x.count(5), kept);
            } else {
                due("11 what it was", x.become(0, kind), was);
                due("11 an ACT", x.count(5), kept + 1);
                due("11 it is that then", x.become(0, kind), STATE);
            }
            due("11 it is that", x.kind(0), kind);
        }
        for (int kind : new int[] {0, 6, -1, LEAST, MOST}) {
            due("11 no KIND " + kind, x.become(0, kind), BAD);
        }
        due("11 J, K, N stay", x.disc(0, J) * 10000 + x.disc(0, K) * 10 + x.disc(0, N), 20300);
        due("11 of no other one", x.kind(5), PLAIN);
        due("11 the last one", x.become(5, SLIPPING), PLAIN);
    }

    private static void marks() {
        ShaftDiscs x = Checks.shaftOf(PAIR);
        due("12 the least", x.mark(0), 10);
        due("12 below it", x.mark(-1), BAD);
        due("12 the most", x.mark(200), 0);
        due("12 above it", x.mark(201), BAD);
        due("12 far off", x.mark(LEAST), BAD);
        due("12 far off", x.mark(MOST), BAD);
        due("12 it is that", x.count(2), 200);
        due("12 two ACTS", x.count(5), 2);
        for (int v = 0; v <= 20; v++) {
            due("12 each", x.mark(v), v == 0 ? 200 : v - 1);
        }
        ShaftDiscs y = new ShaftDiscs();
        for (int v : new int[] {0, 200, -1, 201}) {
            due("12 no SHAFT, ahead of BAD", y.mark(v), STATE);
        }
        due("12 no MARK", y.count(2), 0);
    }

    private static void swaps() {
        for (int a = 0; a < 6; a++) {
            for (int b = 0; b < 6; b++) {
                ShaftDiscs x = Checks.shaftOf(EACH);
                ShaftDiscs y = Checks.shaftOf(EACH);
                due("13 " + a + ", " + b, x.swap(a, b), a == b ? STATE : Math.max(a, b) - Math.min(a, b) + 1);
                for (int disc = 0; disc < 6; disc++) {
                    int from = disc == a ? b : disc == b ? a : disc;
                    for (int which = J; which <= N; which++) {
                        due("13 all that is told", x.disc(disc, which), y.disc(from, which));
                    }
                    due("13 all that is told", x.kind(disc), y.kind(from));
                }
                due("13 an ACT, or none", x.count(5), a == b ? 0 : 1);
                due("9 undone", x.undo(), a == b ? STATE : 0);
                due("9 as it was", x.kind(a) * 10 + x.disc(b, J), y.kind(a) * 10 + y.disc(b, J));
            }
        }
        ShaftDiscs two = Checks.shaftOf(PAIR);
        due("13 both of two", two.swap(1, 0), 2);
        due("13 K of the last", two.disc(1, K), 10);
        due("13 behind the last", two.swap(0, 2), BAD);
        due("13 BAD ahead of STATE", two.swap(2, 2), BAD);
        ShaftDiscs none = new ShaftDiscs();
        due("13 no DISC, ahead of STATE", none.swap(0, 0), BAD);
    }

    private static void eachSortIsUndone() {
        ShaftDiscs x = Checks.shaftOf(EACH);
        x.change(5, J, 5);
        due("9 J", x.undo(), 0);
        due("9 J", x.disc(5, J), 1);
        x.change(5, K, 0);
        due("9 K", x.undo(), 0);
        due("9 K", x.disc(5, K), 9);
        x.change(5, N, 0);
        due("9 N", x.undo(), 0);
        due("9 N", x.disc(5, N), 9);
        x.become(5, GEARED);
        due("9 KIND", x.undo(), 0);
        due("9 KIND", x.kind(5), PLAIN);
        due("9 RATIO", x.disc(5, 3), 2);
        x.mark(0);
        due("9 MARK", x.undo(), 0);
        due("9 MARK", x.count(2), 15);
        x.swap(5, 0);
        due("9 places", x.undo(), 0);
        due("9 places", x.disc(5, K) * 100 + x.disc(0, K), 930);
        due("9 none", x.undo(), STATE);
        // the same one twice: the latest first
        x.change(0, K, 1);
        x.change(0, K, 2);
        due("9 the latest", x.undo(), 1);
        due("9 the one ahead", x.disc(0, K), 1);
        x.swap(0, 1);
        x.change(0, K, 3);
        due("9 K of the one that stands there now", x.undo(), 2);
        due("9 K", x.disc(0, K) * 100 + x.disc(1, K), 2001);
        due("9 places", x.undo(), 1);
        due("9 K", x.disc(0, K) * 100 + x.disc(1, K), 120);
        due("9 the first", x.undo(), 0);
        due("9 K", x.disc(0, K), 30);
        due("9 STATE", x.undo(), STATE);
        due("9 STATE yet", x.undo(), STATE);
    }

    private static void twentyFour() {
        for (int acts = 22; acts <= 26; acts++) {
            ShaftDiscs x = Checks.shaftOf(PAIR);
            for (int i = 1; i <= acts; i++) {
                due("12 what it was", x.mark(100 + i), i == 1 ? 10 : 99 + i);
                due("33 ACTS", x.count(5), Math.min(i, 24));
            }
            int kept = Math.min(acts, 24);
            for (int left = kept - 1; left >= 0; left--) {
                due("9 of " + acts, x.undo(), left);
                int behind = acts - kept + left;
                due("9 MARK of " + acts, x.count(2), behind == 0 ? 10 : 100 + behind);
            }
            due("9 no more of " + acts, x.undo(), STATE);
            due("9 MARK stays", x.count(2), acts <= 24 ? 10 : 76 + acts);
        }
        ShaftDiscs y = Checks.shaftOf(PAIR);
        for (int i = 0; i < 24; i++) {
            y.mark(i);
        }
        y.mark(201);
        y.change(0, J, 6);
        y.become(0, PLAIN);
        y.swap(0, 0);
        due("9 what is refused forgets none", y.count(5), 24);
        y.undo();
        y.mark(150);
        due("9 room for one again", y.count(5), 24);
        for (int left = 23; left >= 0; left--) {
            due("9 all of these", y.undo(), left);
        }
        due("9 the very first", y.count(2), 10);
    }

    private static void whatForgetsActs() {
        ShaftDiscs x = Checks.shaftOf(PAIR);
        x.image(0);
        x.mark(50);
        due("28 restore", x.restore(0), 1);
        due("28 no ACT can be undone", x.count(5), 0);
        due("28 no ACT can be undone", x.undo(), STATE);
        x.mark(60);
        Checks.read(x, CHAIN);
        due("7 no ACT can be undone", x.count(5), 0);
        due("7 no ACT can be undone", x.undo(), STATE);
        due("7 MARK", x.count(2), 1);
        x.mark(60);
        due("9 from then on", x.undo(), 0);
        due("9 MARK", x.count(2), 1);
    }

    private static void whatLeavesActs() {
        ShaftDiscs x = Checks.shaftOf(EACH);
        x.mark(50);
        x.change(0, J, 5);
        x.image(1);
        x.ask(0, 0);
        x.as(0, 0);
        x.below(3);
        x.stiffer(0, 3);
        x.byTurns(2);
        x.row(0, 0, 3);
        x.who(0, 0, 0, 0, 3);
        x.broken(2, 3, 0);
        x.drawn(9, 9, 0);
        Checks.read(x, "m");
        due("9 a FAULT, an IMAGE, what is asked leave the ACTS", x.count(5), 2);
        due("9 undo", x.undo(), 1);
        due("9 J", x.disc(0, J), 2);
        due("9 undo", x.undo(), 0);
        due("9 MARK", x.count(2), 15);
        due("28 the IMAGE is as it was kept", x.restore(1), 1);
        due("28 J", x.disc(0, J), 5);
        due("28 MARK", x.count(2), 50);
    }

    private static void ratios() {
        ShaftDiscs none = Checks.shaftOf("m0,0;p1,1,1;w1,1,1;t1,1,1;s1,1,1;p1,1,1;w1,1,1;");
        ShaftDiscs all = Checks.shaftOf("m0,0;g1,1,1;g1,1,1;g1,1,1;g1,1,1;g1,1,1;g1,1,1;");
        for (int disc = 0; disc < 6; disc++) {
            due("14 RATIO without any", none.disc(disc, 3), 1);
            due("14 RATIO of all", all.disc(disc, 3), 2 << disc);
            due("14 WEIGHT of all", all.disc(disc, 4), 4 << 2 * disc);
            due("14 SPRING of all", all.disc(disc, 5), disc == 5 ? 0 : 4 << 2 * disc);
            due("14 TIE of a geared one", all.disc(disc, 6), 0);
        }
        // the geared one itself, too, and none ahead of it
        for (int at = 0; at < 6; at++) {
            none.become(at, GEARED);
            for (int disc = 0; disc < 6; disc++) {
                due("14 RATIO, " + at + " is geared", none.disc(disc, 3), disc < at ? 1 : 2);
            }
            none.undo();
        }
        none.become(1, GEARED);
        none.swap(1, 4);
        due("14 RATIO behind a swap", none.disc(3, 3) * 10 + none.disc(4, 3), 12);
    }

    private static void weightsSpringsTies() {
        // J 5, K 39, N 9 of each kind, first, in the middle and last
        int[] weight = {0, 5, 5, 14, 5, 5};
        int[] spring = {0, 39, 39, 39, 39, 19};
        int[] tie = {0, 0, 0, 0, 9, 9};
        for (int kind = PLAIN; kind <= SLIPPING; kind++) {
            ShaftDiscs x = Checks.shaftOf("m0,0;p5,39,9;p5,39,9;p5,39,9;");
            for (int disc = 0; disc < 3; disc++) {
                if (kind != PLAIN) {
                    x.become(disc, kind);
                }
                int square = kind == GEARED ? 4 : 1;
                due("14 WEIGHT of kind " + kind, x.disc(disc, 4), weight[kind] * square);
                due("14 SPRING of kind " + kind, x.disc(disc, 5), disc == 2 ? 0 : spring[kind] * square);
                due("14 TIE of kind " + kind, x.disc(disc, 6), tie[kind] * square);
                if (kind != PLAIN) {
                    x.undo();
                }
            }
            // behind a geared one
            x.become(0, GEARED);
            if (kind != PLAIN) {
                x.become(1, kind);
            }
            int square = kind == GEARED ? 16 : 4;
            due("14 geared WEIGHT of kind " + kind, x.disc(1, 4), weight[kind] * square);
            due("14 geared SPRING of kind " + kind, x.disc(1, 5), spring[kind] * square);
            due("14 geared TIE of kind " + kind, x.disc(1, 6), tie[kind] * square);
        }
        ShaftDiscs s = Checks.shaftOf("m0,0;s1,0,0;p1,0,0;");
        for (int k = 0; k <= 40; k++) {
            s.change(0, K, k);
            due("14 half of K, cut", s.disc(0, 5), k / 2);
        }
        // half first, then geared: 3 by 2 is 1, times 4
        ShaftDiscs g = Checks.shaftOf("m0,0;g1,0,0;s1,3,0;p1,0,0;");
        due("14 cut ahead of the RATIO", g.disc(1, 5), 4);
        ShaftDiscs w = Checks.shaftOf("m0,0;w1,1,0;w5,1,9;");
        due("14 the lightest wheel", w.disc(0, 4), 1);
        due("14 the heaviest wheel", w.disc(1, 4), 14);
    }

    private static void images() {
        ShaftDiscs x = new ShaftDiscs();
        for (int k = 0; k <= 1; k++) {
            due("27 no SHAFT", x.image(k), STATE);
            due("28 none was kept", x.restore(k), STATE);
        }
        for (int k : new int[] {-1, 2, LEAST, MOST}) {
            due("27 no IMAGE " + k, x.image(k), BAD);
            due("28 no IMAGE " + k, x.restore(k), BAD);
        }
        Checks.read(x, PAIR);
        for (int k : new int[] {-1, 2, LEAST, MOST}) {
            due("27 no IMAGE " + k, x.image(k), BAD);
            due("28 no IMAGE " + k, x.restore(k), BAD);
        }
        due("28 a SHAFT, but none was kept", x.restore(0), STATE);
        due("27 the first", x.image(0), 1);
        due("28 the second was not", x.restore(1), STATE);
        x.change(0, K, 40);
        due("27 the second", x.image(1), 1);
        x.change(0, K, 30);
        x.mark(99);
        due("27 an IMAGE is no ACT", x.count(5), 3);
        due("28 the first", x.restore(0), 1);
        due("28 K", x.disc(0, K), 10);
        due("28 MARK", x.count(2), 10);
        due("28 the second", x.restore(1), 1);
        due("28 K", x.disc(0, K), 40);
        x.change(0, K, 5);
        due("28 what is done then leaves the IMAGE", x.restore(1), 1);
        due("28 K", x.disc(0, K), 40);
        x.change(0, K, 6);
        due("27 in place of the one before", x.image(1), 1);
        Checks.read(x, EACH);
        due("28 fewer discs", x.restore(1), 1);
        due("28 DISCS", x.count(1), 2);
        due("28 no third one", x.disc(2, 0), BAD);
        due("28 K", x.disc(0, K), 6);
        due("28 the first is as it was", x.restore(0), 1);
        due("28 K", x.disc(0, K), 10);
        due("34 IMAGES are not told", x.status(), 0);
    }
}
