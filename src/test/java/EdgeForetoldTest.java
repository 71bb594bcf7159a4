import java.util.ArrayList;
import java.util.List;

/** Terms 3 (STIFFER to YEARS) and promises 20 to 26: limits, the empty and the full, OVER in part. */
public final class EdgeForetoldTest implements Answers {
    private static final Checks C = new Checks();
    /** Six plain discs: at the mark 1 as many are below as there are parts, if springs break. */
    private static final String SIX_PLAIN = "m0,1;p1,40,0;p1,40,0;p1,40,0;p1,40,0;p1,40,0;p1,40,0;";
    private static final String SIX_HEAVIEST = "m0,0;p5,40,0;p5,40,0;p5,40,0;p5,40,0;p5,40,0;p5,40,0;";

    public static void main(String[] args) {
        stifferLimits();
        stifferOver();
        sets();
        share();
        turns();
        turnsOver();
        whoLimits();
        whoFinds();
        whoOver();
        brokenLimits();
        brokenFractions();
        brokenOver();
        drawnLimits();
        drawnDraws();
        drawnOver();
        asItIsNow();
        C.end("EdgeForetoldTest");
    }

    private static void due(String call, long got, long want) {
        C.due(call, got, want);
    }

    private static void stifferLimits() {
        ShaftDiscs x = Checks.shaftOf(PAIR);
        // both swing below the mark, if twice K is less than it
        x.change(0, K, 0);
        int[][] of = {{0, 0}, {1, 1}, {2, 1}, {3, 2}, {119, 60}, {120, 60}, {121, NONE}, {200, NONE}};
        for (int[] one : of) {
            x.mark(one[0]);
            due("20 from 0 at " + one[0], x.stiffer(0, 1), one[1]);
            due("34 none", x.status(), 0);
            due("20 K is as it was", x.disc(0, K), 0);
        }
        x.change(0, K, 40);
        int[][] full = {{80, 0}, {81, 1}, {198, 59}, {199, 60}, {200, 60}};
        for (int[] one : full) {
            x.mark(one[0]);
            due("20 from 40 at " + one[0], x.stiffer(0, 1), one[1]);
        }
        x.change(0, K, 39);
        due("20 one too little", x.stiffer(0, 1), NONE);
        for (int v = 2; v <= 6; v++) {
            due("20 as many as DISCS, or more", x.stiffer(0, v), 0);
        }
        due("20 the lowest swings at 0", x.stiffer(0, 0), NONE);
        x.mark(0);
        due("20 none is below 0", x.stiffer(0, 0), 0);
        x.mark(20);
        x.become(0, SLIPPING);
        x.change(0, N, 0);
        x.change(0, K, 19);
        due("20 half of K, cut", x.stiffer(0, 1), 1);
        x.change(0, K, 0);
        due("20 half of K", x.stiffer(0, 1), 20);

        for (int v : new int[] {-1, 7, LEAST, MOST}) {
            due("20 no such v", x.stiffer(0, v), BAD);
        }
        for (int disc : new int[] {-1, 1, 2, LEAST, MOST}) {
            due("20 no such DISC, or the last", x.stiffer(disc, 1), BAD);
        }
        ShaftDiscs six = Checks.shaftOf(SIX_PLAIN);
        due("20 the last but one", six.stiffer(4, 6), 0);
        due("20 the last", six.stiffer(5, 6), BAD);
        due("20 no SHAFT", new ShaftDiscs().stiffer(0, 0), BAD);
    }

    private static void stifferOver() {
        // OVER from 48 more on; 13 more are enough for 2
        ShaftDiscs x = Checks.shaftOf("m0,5;g5,11,6;g5,20,5;g2,15,5;g4,38,1;w4,29,6;g2,29,8;");
        due("20 ahead of OVER", x.stiffer(0, 3), 0);
        due("20 ahead of OVER", x.stiffer(0, 2), 13);
        due("34 none", x.status(), 0);
        due("20 OVER ahead of it", x.stiffer(0, 1), OVER);
        due("34 OVER", x.status(), 6);
        due("20 never OVER by DISC 1", x.stiffer(1, 2), NONE);
        due("34 none", x.status(), 0);
        due("20 K is as it was", x.disc(0, K), 11);
        ShaftDiscs h = Checks.shaftOf(HEAVY);
        due("20 OVER at 0, though v is 6", h.stiffer(0, 6), OVER);
        due("34 OVER", h.status(), 6);
        due("20 BAD ahead of OVER", h.stiffer(0, 7), BAD);
        due("34 OVER yet", h.status(), 6);
    }

    private static void setsDue(ShaftDiscs x, int v, int many, int inAll, int inAny) {
        due("21 how many of " + v, x.sets(v, 0), many);
        due("21 in all of " + v, x.sets(v, 1), inAll);
        due("21 in any of " + v, x.sets(v, 2), inAny);
    }

    private static void sets() {
        ShaftDiscs x = Checks.shaftOf("m0,0;p1,0,0;p2,0,0;p4,0,0;p5,0,0;");
        setsDue(x, 0, 1, 0, 0);
        setsDue(x, 1, 1, 1, 1);
        setsDue(x, 5, 2, 0, 13);
        setsDue(x, 6, 2, 0, 15);
        setsDue(x, 7, 2, 2, 15);
        setsDue(x, 8, 1, 11, 11);
        setsDue(x, 11, 1, 14, 14);
        setsDue(x, 12, 1, 15, 15);
        setsDue(x, 13, 0, 0, 0);
        setsDue(x, 99, 0, 0, 0);
        ShaftDiscs six = Checks.shaftOf(SIX_HEAVIEST);
        setsDue(six, 0, 1, 0, 0);
        setsDue(six, 4, 0, 0, 0);
        setsDue(six, 5, 6, 0, 63);
        setsDue(six, 15, 20, 0, 63);
        setsDue(six, 25, 6, 0, 63);
        setsDue(six, 30, 1, 63, 63);
        setsDue(six, 31, 0, 0, 0);
        // J, not the WEIGHT: wheels, geared ones
        ShaftDiscs w = Checks.shaftOf("m0,0;w1,0,9;g2,0,0;");
        setsDue(w, 3, 1, 3, 3);
        setsDue(w, 10, 0, 0, 0);
        ShaftDiscs none = new ShaftDiscs();
        for (int v : new int[] {-1, 100, LEAST, MOST}) {
            due("21 no such v", x.sets(v, 0), BAD);
            due("21 no SHAFT, ahead of BAD", none.sets(v, 0), STATE);
        }
        for (int what : new int[] {-1, 3, LEAST, MOST}) {
            due("21 no such one", x.sets(0, what), BAD);
            due("21 no SHAFT, ahead of BAD", none.sets(0, what), STATE);
        }
        due("34 nothing is told of it", x.status(), 0);
    }

    private static void shareDue(ShaftDiscs x, int n, int... want) {
        for (int disc = 0; disc < want.length; disc++) {
            due("22 of " + n + ", DISC " + disc, x.share(disc, n), want[disc]);
        }
    }

    private static void share() {
        ShaftDiscs six = Checks.shaftOf(SIX_HEAVIEST);
        shareDue(six, 0, 0, 0, 0, 0, 0, 0);
        shareDue(six, 1, 1, 0, 0, 0, 0, 0);
        shareDue(six, 5, 1, 1, 1, 1, 1, 0);
        shareDue(six, 6, 1, 1, 1, 1, 1, 1);
        shareDue(six, 999, 167, 167, 167, 166, 166, 166);
        // K 0, 3, 0, 4, 0: those of 0 get none of what is over
        ShaftDiscs x = Checks.shaftOf("m0,0;p1,0,0;p1,3,0;p1,0,0;p1,4,0;p1,0,0;");
        shareDue(x, 1, 0, 1, 0, 0, 0);
        shareDue(x, 8, 0, 4, 0, 4, 0);
        shareDue(x, 13, 0, 6, 0, 7, 0);
        shareDue(x, 999, 0, 429, 0, 570, 0);
        // the last one has a K, too, though no SPRING
        ShaftDiscs last = Checks.shaftOf("m0,0;s1,0,0;p1,7,0;");
        shareDue(last, 999, 0, 999);
        ShaftDiscs none = Checks.shaftOf("m0,0;p1,0,0;p1,0,0;");
        shareDue(none, 0, 0, 0);
        shareDue(none, 999, 0, 0);
        // all K are 1 together
        ShaftDiscs single = Checks.shaftOf("m0,0;p1,0,0;p1,1,0;");
        shareDue(single, 0, 0, 0);
        shareDue(single, 999, 0, 999);
        // K, not the SPRING: a slipping one, a geared one
        ShaftDiscs s = Checks.shaftOf("m0,0;s1,10,0;g1,10,0;");
        shareDue(s, 10, 5, 5);
        for (int n : new int[] {-1, 1000, LEAST, MOST}) {
            due("22 no such n", six.share(0, n), BAD);
        }
        for (int disc : new int[] {-1, 6, LEAST, MOST}) {
            due("22 no such DISC", six.share(disc, 1), BAD);
        }
        due("22 no SHAFT", new ShaftDiscs().share(0, 1), BAD);
    }

    private static void turns() {
        // J 1 and 1: at twice K. The one adds 5 to K, the other makes J 1 and 2: at K times 3 by 2
        ShaftDiscs x = Checks.shaftOf(PAIR);
        int[][] of = {{20, 1, 1, 1, 1}, {21, 2, 1, 1, 1}, {22, 2, 1, 1, 1}, {23, 2, 1, 2, 1}, {30, 2, 1, 2, 1},
            {31, 2, 2, 2, 2}, {0, 0, 0, 0, 0}, {1, 1, 1, 1, 1}, {200, 2, 2, 2, 2}};
        for (int[] one : of) {
            x.mark(one[0]);
            for (int n = 0; n <= 3; n++) {
                due("23 at " + one[0] + ", " + n + " in all", x.byTurns(n), one[1 + n]);
            }
        }
        due("23 nothing changes", x.disc(0, K) * 100 + x.count(3), 1002);
        // K 40 and J 5 are not the most here: (45)(1/5 + 1/5) is 18, then (45)(1/6 + 1/5) is 16.5
        ShaftDiscs full = Checks.shaftOf("m1,8;p5,40,0;p5,40,0;");
        due("23 beyond 40", full.byTurns(1), 1);
        full.mark(19);
        due("23 beyond 40", full.byTurns(1), 2);
        full.mark(16);
        due("23 beyond 5", full.byTurns(2), 1);
        full.mark(17);
        due("23 beyond 5", full.byTurns(2), 2);
        ShaftDiscs none = new ShaftDiscs();
        for (int n : new int[] {-1, 4, LEAST, MOST}) {
            due("23 no such n", x.byTurns(n), BAD);
            due("23 no SHAFT, ahead of BAD", none.byTurns(n), STATE);
        }
        due("34 nothing is told of it", x.status(), 0);
    }

    private static void turnsOver() {
        // 5 are below the mark; some of what can be done makes it OVER: 6, which the one will not have
        ShaftDiscs x = Checks.shaftOf("m2,3;g4,35,4;g3,34,6;s1,36,9;g4,12,7;t2,8,4;w4,34,5;");
        int[] want = {5, 5, 6, 6};
        for (int n = 0; n <= 3; n++) {
            due("23 OVER in part, " + n, x.byTurns(n), want[n]);
        }
        ShaftDiscs y = Checks.shaftOf("m0,6;g1,0,6;g5,0,8;g1,36,3;g1,7,6;g4,5,0;g1,25,2;");
        int[] other = {5, 4, 5, 4};
        for (int n = 0; n <= 3; n++) {
            due("23 OVER in part, " + n, y.byTurns(n), other[n]);
        }
        ShaftDiscs h = Checks.shaftOf(HEAVY);
        h.set(0, 0, 0);
        for (int n = 0; n <= 3; n++) {
            due("23 all OVER: as many as DISCS", h.byTurns(n), 6);
        }
        due("34 that of the ROW yet", h.status(), 1);
        ShaftDiscs five = Checks.shaftOf("m20,0;g5,40,0;g5,40,0;g5,40,0;g5,40,0;g5,40,0;");
        due("23 all OVER: as many as DISCS", five.byTurns(0), 5);
    }

    private static void whoLimits() {
        ShaftDiscs x = Checks.shaftOf(CHAIN);
        x.row(0, 2, 3);
        x.row(7, 0, 40);
        x.row(1, 0, 0);
        due("24 n 1", x.who(0, 2, 7, 0, 1), 41);
        due("24 n as many as DISCS", x.who(2, 2, 7, 0, 3), 0);
        due("24 n 0", x.who(0, 2, 7, 0, 0), BAD);
        due("24 n one more than DISCS", x.who(0, 2, 7, 0, 4), BAD);
        due("24 the last places", x.who(0, 2, 7, 37, 3), 0);
        due("34 none", x.status(), 0);
        due("24 beyond the end", x.who(0, 2, 7, 38, 3), PLACE);
        due("34 PLACE", x.status(), 2);
        due("24 the last place", x.who(0, 2, 7, 39, 1), 41);
        due("24 behind it", x.who(0, 2, 7, 40, 1), PLACE);
        due("24 of an empty ROW", x.who(0, 2, 1, 0, 1), PLACE);
        due("24 of a missing ROW", x.who(0, 2, 2, 0, 1), NULL);
        due("34 NULL", x.status(), 1);
        due("24 the last DISC", x.who(2, 3, 7, 0, 1), 0);
        for (int no : new int[] {-1, LEAST, MOST}) {
            due("24 no DISC", x.who(no, 0, 0, 0, 1), BAD);
            due("24 no such one", x.who(0, no, 0, 0, 1), BAD);
            due("24 no ROW", x.who(0, 0, no, 0, 1), BAD);
            due("24 no such n", x.who(0, 0, 0, 0, no), BAD);
            due("24 no PLACE", x.who(0, 0, 0, no, 1), PLACE);
            due("24 no PLACE, and n", x.who(0, 0, 0, no, 3), PLACE);
        }
        due("24 DISC 3", x.who(3, 0, 0, 0, 1), BAD);
        due("24 which 4", x.who(0, 4, 0, 0, 1), BAD);
        due("24 ROW 8", x.who(0, 0, 8, 0, 1), BAD);
        due("24 BAD ahead of NULL", x.who(0, 0, 2, 0, 4), BAD);
        due("24 NULL ahead of PLACE", x.who(0, 0, 2, -1, 3), NULL);
        due("24 no SHAFT", new ShaftDiscs().who(0, 0, 0, 0, 1), BAD);
    }

    private static void row(ShaftDiscs x, int lane, int... of) {
        x.row(0, lane, of.length);
        for (int i = 0; i < of.length; i++) {
            x.set(0, i, of[i]);
        }
    }

    private static void whoFinds() {
        ShaftDiscs x = Checks.shaftOf(TWOS);
        for (int k : new int[] {0, 1, 20, 39, 40}) {
            row(x, 2, 0, k);
            due("24 K: how many", x.who(0, 2, 0, 0, 2), 1);
            due("24 K: the least", x.who(0, 3, 0, 0, 2), k);
        }
        row(x, 2, 0, 41);
        due("24 beyond 40: none", x.who(0, 2, 0, 0, 2), 0);
        due("24 beyond 40: NONE", x.who(0, 3, 0, 0, 2), NONE);
        due("34 NONE is no FINDING", x.status(), 0);
        row(x, 2, 0, -1);
        due("24 each has a BOX", x.who(0, 3, 0, 0, 2), NONE);
        row(x, 2, 0, NONE);
        due("24 NONE is told by -1 alone", x.who(0, 3, 0, 0, 2), NONE);
        // all of a K that does not matter
        row(x, 2, 0, 0);
        due("24 of the last one each K", x.who(1, 2, 0, 0, 2), 41);
        due("24 of the last one the least", x.who(1, 3, 0, 0, 2), 0);
        due("24 each kind", x.who(0, 0, 0, 0, 2), 62);
        due("24 each weight", x.who(0, 1, 0, 0, 2), 62);
        // the lightest, the heaviest: K 20 by J and 1: 40 at 1, 24 at 5
        ShaftDiscs w = Checks.shaftOf("m0,0;p2,20,0;p1,0,0;");
        row(w, 0, 0, 40);
        due("24 J 1", w.who(0, 1, 0, 0, 2), 1 << 1);
        row(w, 0, 0, 24);
        due("24 J 5", w.who(0, 1, 0, 0, 2), 1 << 5);
        row(w, 0, 0, 30);
        due("24 J 2", w.who(0, 1, 0, 0, 2), 1 << 2);
        row(w, 0, 0, 23);
        due("24 no J", w.who(0, 1, 0, 0, 2), 0);
        kindsFound();
        // a slipping one: K and K and 1 alike
        ShaftDiscs s = Checks.shaftOf("m0,0;s2,0,0;p2,0,0;");
        row(s, 1, 0, 20);
        due("24 only 40", s.who(0, 2, 0, 0, 2), 1);
        row(s, 1, 0, 19);
        due("24 38 and 39", s.who(0, 2, 0, 0, 2), 2);
        due("24 38", s.who(0, 3, 0, 0, 2), 38);
        // bytes have a sign: what is beyond 127 is never told by them
        ShaftDiscs six = Checks.shaftOf("m0,0;t1,40,9;t1,40,9;t1,40,9;t1,40,9;t1,40,9;t1,40,9;");
        row(six, 1, 9, 19, 49, 89, 129, 158);
        due("24 all of six", six.who(0, 3, 0, 0, 6), 40);
        row(six, 0, 9, 19, 49, 89, 129, 158);
        due("24 bytes wrap around", six.who(0, 3, 0, 0, 6), NONE);
        due("24 the first four do not", six.who(0, 3, 0, 0, 4), 40);
    }

    /** K 7, N 3, J 1 and 1: what each kind swings at. */
    private static void kindsFound() {
        ShaftDiscs x = Checks.shaftOf("m0,0;p1,7,3;p1,0,0;");
        int[] first = new int[6];
        int[] second = new int[6];
        for (int kind = PLAIN; kind <= SLIPPING; kind++) {
            if (kind != PLAIN) {
                x.become(0, kind);
            }
            first[kind] = x.box(0);
            second[kind] = x.box(1);
        }
        x.become(0, PLAIN);
        due("17 plain, geared", first[1] * 100 + second[1], 14);
        for (int kind = PLAIN; kind <= SLIPPING; kind++) {
            int bits = 0;
            for (int other = PLAIN; other <= SLIPPING; other++) {
                if (first[other] == first[kind] && second[other] == second[kind]) {
                    bits |= 1 << other;
                }
            }
            row(x, 2, first[kind], second[kind]);
            due("24 KINDS like " + kind, x.who(0, 0, 0, 0, 2), bits);
            C.holds("24 the kind itself is among them", (bits >> kind & 1) == 1);
        }
        due("24 nothing changes", x.kind(0), PLAIN);
    }

    private static void whoOver() {
        // if DISC 1 is geared (as it is), BELOW 200 is OVER; of the others each has other BOXES
        ShaftDiscs x = Checks.shaftOf("m1,0;g1,11,8;g1,23,4;g3,18,8;p5,20,0;g1,15,0;");
        int[][] boxes = {{0, 4, 7, 13, 39}, {0, 2, 7, 13, 15}, {0, 4, 8, 13, 43}, {0, 4, 6, 13, 32}};
        int[] kinds = {PLAIN, WHEEL, TIED, SLIPPING};
        for (int i = 0; i < 4; i++) {
            row(x, 0, boxes[i]);
            due("24 OVER in part", x.who(1, 0, 0, 0, 5), 1 << kinds[i]);
            due("34 none", x.status(), 0);
        }
        due("24 of one SPEED: all but the one that is OVER", x.who(1, 0, 0, 0, 1), 62 - (1 << GEARED));
        due("24 K: all are OVER", x.who(1, 2, 0, 0, 1), 0);
        due("24 K: NONE", x.who(1, 3, 0, 0, 1), NONE);
        due("34 none", x.status(), 0);
    }

    private static void fractionDue(ShaftDiscs x, int v, int p, long above, long below) {
        due("25 above, " + v + " by " + p, x.broken(v, p, 0), above);
        due("25 below, " + v + " by " + p, x.broken(v, p, 1), below);
    }

    private static void brokenLimits() {
        ShaftDiscs x = Checks.shaftOf(PAIR);
        fractionDue(x, 0, 0, 0, 1);
        fractionDue(x, 6, 10, 0, 1);
        fractionDue(x, 3, 5, 0, 1);
        fractionDue(x, 1, 0, 1, 1);
        fractionDue(x, 2, 10, 1, 1);
        fractionDue(x, 1, 10, 0, 1);
        ShaftDiscs none = new ShaftDiscs();
        for (int no : new int[] {-1, LEAST, MOST}) {
            due("25 no such v", x.broken(no, 0, 0), BAD);
            due("25 no such p", x.broken(0, no, 0), BAD);
            due("25 no such one", x.broken(0, 0, no), BAD);
            due("25 no SHAFT, ahead of BAD", none.broken(no, no, no), STATE);
        }
        due("25 v 7", x.broken(7, 0, 0), BAD);
        due("25 p 11", x.broken(0, 11, 0), BAD);
        due("25 what 2", x.broken(0, 0, 2), BAD);
        due("25 no SHAFT", none.broken(0, 0, 0), STATE);
        due("34 nothing is told of it", x.status(), 0);
    }

    private static void brokenFractions() {
        ShaftDiscs two = Checks.shaftOf(PAIR);
        long[][] half = {{1, 10}, {1, 5}, {3, 10}, {2, 5}, {1, 2}, {3, 5}, {7, 10}, {4, 5}, {9, 10}};
        for (int p = 1; p <= 9; p++) {
            fractionDue(two, 2, p, half[p - 1][0], half[p - 1][1]);
            fractionDue(two, 1, p, half[9 - p][0], half[9 - p][1]);
        }
        // each broken spring is a part more, and each part swings at 0
        ShaftDiscs six = Checks.shaftOf(SIX_PLAIN);
        fractionDue(six, 0, 1, 0, 1);
        fractionDue(six, 1, 1, 59049, 100000);
        fractionDue(six, 2, 1, 6561, 20000);
        fractionDue(six, 3, 1, 729, 10000);
        fractionDue(six, 4, 1, 81, 10000);
        fractionDue(six, 5, 1, 9, 20000);
        fractionDue(six, 6, 1, 1, 100000);
        fractionDue(six, 3, 5, 5, 16);
        fractionDue(six, 6, 5, 1, 32);
        fractionDue(six, 1, 0, 1, 1);
        fractionDue(six, 6, 10, 1, 1);
        fractionDue(six, 5, 10, 0, 1);
        due("25 nothing changes", six.count(4), 240);
        // springs that are 0 at first cannot break
        ShaftDiscs gone = Checks.shaftOf("m0,1;p1,0,0;p1,0,0;p1,40,0;");
        fractionDue(gone, 3, 3, 1, 1);
        // apart: the first alone, the second alone
        ShaftDiscs apart = Checks.shaftOf("m0,1;p1,40,0;p1,0,0;p1,0,0;");
        fractionDue(apart, 2, 3, 7, 10);
        fractionDue(apart, 3, 3, 3, 10);
    }

    private static void brokenOver() {
        // OVER, where the first is broken but not the second, or the third but not the second
        ShaftDiscs x = Checks.shaftOf("m1,9;g2,11,7;g1,33,1;p1,25,7;g4,2,1;g3,0,7;s2,35,2;");
        fractionDue(x, 5, 0, 1, 1);
        fractionDue(x, 6, 0, 0, 1);
        fractionDue(x, 5, 1, 819, 1000);
        fractionDue(x, 6, 1, 1, 100);
        fractionDue(x, 5, 5, 3, 8);
        fractionDue(x, 6, 5, 1, 4);
        fractionDue(x, 6, 10, 1, 1);
        fractionDue(x, 4, 5, 0, 1);
        ShaftDiscs h = Checks.shaftOf(HEAVY);
        for (int v = 0; v <= 6; v++) {
            fractionDue(h, v, 5, 0, 1);
        }
        due("34 nothing is told of it", h.status(), 0);
    }

    private static void drawnLimits() {
        ShaftDiscs x = Checks.shaftOf(PAIR);
        due("26 no times", x.drawn(0, 1, 0), 0);
        due("26 no times", x.drawn(0, 999999, 1), 0);
        due("26 one below", x.drawn(1, 1, 0), 1);
        due("26 the most times", x.drawn(40, 1, 1), 0);
        due("26 the most", x.drawn(40, 999999, 1), 0);
        ShaftDiscs none = new ShaftDiscs();
        for (int no : new int[] {-1, LEAST, MOST}) {
            due("26 no such n", x.drawn(no, 1, 0), BAD);
            due("26 no such SEED", x.drawn(1, no, 0), BAD);
            due("26 no such one", x.drawn(1, 1, no), BAD);
            due("26 no SHAFT, ahead of BAD", none.drawn(no, no, no), STATE);
        }
        due("26 n 41", x.drawn(41, 1, 0), BAD);
        due("26 SEED 0", x.drawn(1, 0, 0), BAD);
        due("26 SEED 1000000", x.drawn(1, 1000000, 0), BAD);
        due("26 what 2", x.drawn(1, 1, 2), BAD);
        due("26 n 0, SEED 0", x.drawn(0, 0, 0), BAD);
        due("26 no SHAFT", none.drawn(0, 1, 0), STATE);
        due("34 nothing is told of it", x.status(), 0);
    }

    private static void oneDrawDue(int seed, int at, int mark, int below) {
        ShaftDiscs x = Checks.shaftOf(PAIR);
        x.mark(mark);
        due("26 SEED " + seed + ", at " + at + ": not below " + mark, x.drawn(1, seed, 0), below);
        x.mark(mark + 1);
        due("26 SEED " + seed + ", at " + at + ": below " + (mark + 1), x.drawn(1, seed, 0), below + 1);
    }

    private static void drawnDraws() {
        // SEED 6: X is 100842, K of DISC 0 becomes 29
        oneDrawDue(6, 58, 58, 1);
        // SEED 2: X is 33614, J of DISC 0 becomes 2: 10 times (1/2 + 1)
        oneDrawDue(2, 15, 15, 1);
        // SEED 1: X is 16807, J of DISC 1 becomes 1, as it was
        oneDrawDue(1, 20, 20, 1);
        // SEED 3: X is 50421, K of the last one becomes 35: nothing comes of it
        oneDrawDue(3, 20, 20, 1);
        // SEED 999999: X is 1774597664, beyond an int on its way; J of DISC 0 becomes 3
        oneDrawDue(999999, 13, 13, 1);
        // together, one behind the other: X is 16807, 282475249, 1622650073
        // DISC 1: J 1; DISC 1 (X by 3 leaves 1): 1103418 by 5 leaves 3: J 4; DISC 1: 6338476: J 2
        ShaftDiscs x = Checks.shaftOf(PAIR);
        int[][] of = {{20, 1, 3, 5}, {15, 1, 3, 4}, {12, 1, 2, 3}, {13, 1, 3, 4}, {16, 1, 3, 5}, {21, 2, 4, 6}};
        for (int[] one : of) {
            x.mark(one[0]);
            for (int n = 1; n <= 3; n++) {
                due("26 at " + one[0] + ", " + n + " times", x.drawn(n, 1, 0), one[n]);
            }
        }
        due("26 nothing changes", x.count(3) * 100 + x.count(4), 210);
        x.mark(0);
        due("26 none is below 0", x.drawn(40, 7, 0), 0);
        x.mark(200);
        due("26 all are below 200", x.drawn(40, 7, 0), 80);
    }

    private static void drawnOver() {
        ShaftDiscs x = Checks.shaftOf("m12,7;s4,36,5;g3,4,6;g5,21,1;g5,38,1;w3,39,7;");
        int[][] of = {{0, 0, 0}, {1, 0, 1}, {13, 0, 13}, {14, 5, 13}, {33, 100, 13}, {34, 100, 14}, {39, 100, 19},
            {40, 105, 19}};
        for (int[] one : of) {
            due("26 together, " + one[0], x.drawn(one[0], 800, 0), one[1]);
            due("26 how often OVER, " + one[0], x.drawn(one[0], 800, 1), one[2]);
        }
        due("34 nothing is told of it", x.status(), 0);
    }

    private static String textOf(ShaftDiscs x) {
        StringBuilder text = new StringBuilder("m");
        text.append(x.count(2) / 10).append(',').append(x.count(2) % 10).append(';');
        for (int disc = 0; disc < x.count(1); disc++) {
            text.append(" pgwts".charAt(x.kind(disc))).append(x.disc(disc, J)).append(',');
            text.append(x.disc(disc, K)).append(',').append(x.disc(disc, N)).append(';');
        }
        return text.toString();
    }

    private static List<Twins.Call> foretelling() {
        List<Twins.Call> calls = new ArrayList<>();
        for (int i = 0; i <= 6; i++) {
            int v = i;
            calls.add(x -> x.broken(v, 3, 0));
            calls.add(x -> x.broken(v, 3, 1));
        }
        for (int i = 0; i <= 3; i++) {
            int v = i;
            calls.add(x -> x.who(0, v, 0, 0, 2));
            calls.add(x -> x.stiffer(0, v));
            calls.add(x -> x.byTurns(v));
            calls.add(x -> x.sets(v, 0));
            calls.add(x -> x.share(1, 90 + v));
            calls.add(x -> x.determinant(v, 7));
            calls.add(x -> x.below(9 * v));
        }
        for (int i = 0; i <= 1; i++) {
            int what = i;
            calls.add(x -> x.widest(what));
            calls.add(x -> x.drawn(30, 5, what));
            calls.add(x -> x.clear(what, 3));
            calls.add(x -> x.box(what));
        }
        return calls;
    }

    /**
     * What is foretold is that of a new object which is told the same: the one is asked from the
     * first call to the last, the other from the last to the first, so that none leans on the one ahead.
     */
    private static void likeNew(String words, ShaftDiscs x) {
        ShaftDiscs y = Checks.shaftOf(textOf(x));
        row(x, 2, y.box(0), y.box(1));
        row(y, 2, y.box(0), y.box(1));
        List<Twins.Call> calls = foretelling();
        long[] got = new long[calls.size()];
        for (int i = 0; i < got.length; i++) {
            got[i] = calls.get(i).on(x);
        }
        for (int i = got.length - 1; i >= 0; i--) {
            due(words + ", call " + i, got[i], calls.get(i).on(y));
        }
    }

    /** Behind each sort of ACT, undone or not, an image, a fault, and what was foretold ahead of it. */
    private static void asItIsNow() {
        for (int of = 0; of <= 10; of++) {
            ShaftDiscs x = Checks.shaftOf("m0,9;p1,20,3;w2,10,6;t1,9,4;");
            x.image(0);
            x.drawn(40, 77, 0);
            switch (of) {
                case 0: x.change(0, J, 5); break;
                case 1: x.change(0, K, 3); break;
                case 2: x.change(1, N, 0); break;
                case 3: x.become(1, SLIPPING); break;
                case 4: x.become(0, GEARED); break;
                case 5: x.mark(40); break;
                case 6: x.swap(0, 2); break;
                case 7: x.mark(40); x.swap(0, 2); x.undo(); break;
                case 8: x.change(0, K, 3); x.mark(1); x.restore(0); break;
                case 9: Checks.read(x, "m20,0;g5,40,9;s5,0,9;g5,40,9;p"); break;
                default: x.byTurns(3); x.stiffer(1, 0); x.broken(2, 9, 0); break;
            }
            likeNew("as it is now, " + of, x);
        }
    }
}
