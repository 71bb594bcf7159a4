/** Terms 2 and 3 (DETERMINANTS, BELOW, BOX, WIDEST, CLEAR) and promises 15 to 19, with OVER. */
public final class EdgeSpeedsTest implements Answers {
    private static final Checks C = new Checks();
    /** They swing at 9, 19.7, 49, 89, 129 and 158.3. */
    private static final String SIX_TIED = "m0,0;t1,40,9;t1,40,9;t1,40,9;t1,40,9;t1,40,9;t1,40,9;";
    /** At 200 the last determinant is just within a long. */
    private static final String JUST_WITHIN = "m0,0;s3,22,2;t3,32,6;w5,35,9;g1,34,0;s4,18,3;w1,22,6;";
    /** Within a long up to the mark 108. */
    private static final String WHEELS = "m2,0;w5,40,9;w5,40,9;w5,40,9;w5,40,9;w5,40,9;w5,40,9;";

    public static void main(String[] args) {
        limits();
        determinants();
        noughtHasTheSignAhead();
        justWithinALong();
        productBeyondALong();
        differenceBeyondALong();
        oneAheadIsOver();
        boxesOfWholeSpeeds();
        boxesByHalvingAlone();
        boxesOver();
        widest();
        clear();
        C.end("EdgeSpeedsTest");
    }

    private static void due(String call, long got, long want) {
        C.due(call, got, want);
    }

    private static void limits() {
        ShaftDiscs x = Checks.shaftOf(PAIR);
        ShaftDiscs six = Checks.shaftOf(SIX_TIED);
        due("15 the least mark", x.determinant(1, 0), 10);
        due("15 the most", x.determinant(1, 200), -190);
        due("15 the last number of two", x.determinant(2, 0), 0);
        due("15 behind the last of two", x.determinant(3, 0), BAD);
        due("15 the last number of six is there", six.determinant(6, 9), 0);
        due("15 behind the last of six", six.determinant(7, 9), BAD);
        due("16 the least mark", x.below(0), 0);
        due("16 the most", x.below(200), 2);
        due("17 the last of two", x.box(1), 20);
        due("17 behind the last of two", x.box(2), BAD);
        due("17 the last of six", six.box(5), 158);
        due("17 behind the last of six", six.box(6), BAD);
        due("19 the last t that is taken", x.clear(0, 9), 10);
        ShaftDiscs none = new ShaftDiscs();
        for (int no : new int[] {-1, 201, LEAST, MOST}) {
            due("15 no mark", x.determinant(0, no), BAD);
            due("15 no number", x.determinant(no, 0), BAD);
            due("16 no mark", x.below(no), BAD);
            due("17 no SPEED", x.box(no), BAD);
            due("18 no such one", x.widest(no), BAD);
            due("19 no mark", x.clear(no, 0), BAD);
            due("19 no t", x.clear(0, no), BAD);
            due("15 no SHAFT, ahead of BAD", none.determinant(no, no), STATE);
            due("16 no SHAFT, ahead of BAD", none.below(no), STATE);
            due("17 no SHAFT: there is no such SPEED", none.box(no), BAD);
            due("18 no SHAFT, ahead of BAD", none.widest(no), STATE);
            due("19 no SHAFT, ahead of BAD", none.clear(no, no), STATE);
        }
        due("18 what 2", x.widest(2), BAD);
        due("19 t 10", x.clear(0, 10), BAD);
        due("17 no SHAFT", none.box(0), BAD);
    }

    private static void determinants() {
        // two discs: (10 - m)(10 - m) - 100
        ShaftDiscs x = Checks.shaftOf(PAIR);
        for (int m = 0; m <= 120; m++) {
            due("15 number 0", x.determinant(0, m), 1);
            due("15 number 1", x.determinant(1, m), 10 - m);
            due("15 number 2", x.determinant(2, m), (10L - m) * (10 - m) - 100);
        }
        // D of the last one: the SPRING ahead of it and its TIE, not its own K
        ShaftDiscs t = Checks.shaftOf("m0,0;t1,4,3;t2,40,5;");
        due("15 D of DISC 0", t.determinant(1, 1), 4 + 3 - 1);
        due("15 D of DISC 1", t.determinant(2, 1), (4 + 5 - 2) * 6 - 16);
        // a geared one: 4 times weight, spring, tie; the spring ahead of it as it is
        ShaftDiscs g = Checks.shaftOf("m0,0;p1,3,0;g2,5,0;s1,9,7;");
        due("15 D of DISC 0", g.determinant(1, 2), 3 - 2);
        due("15 D of the geared one", g.determinant(2, 2), (20 + 3 - 2 * 8) - 9);
        due("15 D of the slipping one", g.determinant(3, 2), (20 + 28 - 2 * 4) * -2 - 400);
    }

    /** "One that is 0 has the sign of the one ahead of it." */
    private static void noughtHasTheSignAhead() {
        int[][] of = {{0, 0, 1, 1, 0}, {1, 1, 0, -1, 0}, {2, 2, -1, -1, 2}, {3, 2, -2, 1, 0}, {4, 3, -3, 5, -12}};
        ShaftDiscs x = Checks.shaftOf(CHAIN);
        for (int[] one : of) {
            due("16 CHAIN at " + one[0], x.below(one[0]), one[1]);
            for (int i = 1; i <= 3; i++) {
                due("15 CHAIN at " + one[0] + ", number " + i, x.determinant(i, one[0]), one[1 + i]);
            }
        }
        ShaftDiscs none = Checks.shaftOf("m0,0;p1,0,0;p1,0,0;");
        due("16 all are 0 but the first", none.below(0), 0);
        due("16 at 1", none.below(1), 2);
        // a SPRING that is 0 keeps all behind at 0, so that BELOW is less than the SPEEDS tell
        ShaftDiscs t = Checks.shaftOf("m0,0;t1,0,6;p1,0,0;");
        due("16 ahead of it", t.below(5), 1);
        due("16 at it", t.below(6), 0);
        due("16 behind it", t.below(7), 2);
        due("15 at it", t.determinant(2, 6), 0);
        // 0 behind one that is less than 0
        ShaftDiscs u = Checks.shaftOf("m0,0;t1,0,2;t1,0,6;p1,0,0;");
        due("16 the sign of the one ahead: less than 0", u.below(6), 1);
        due("15 ahead of it", u.determinant(1, 6), -4);
        due("15 it is 0", u.determinant(2, 6), 0);
        due("15 and behind it", u.determinant(3, 6), 0);
        // 0 in the middle, and then a sign that is another
        ShaftDiscs v = Checks.shaftOf("m0,0;p1,5,0;p1,0,0;");
        due("15 0 in the middle", v.determinant(1, 5), 0);
        due("15 behind it", v.determinant(2, 5), -25);
        due("16 one change", v.below(5), 1);
    }

    private static void justWithinALong() {
        ShaftDiscs x = Checks.shaftOf(JUST_WITHIN);
        due("15 just within", x.determinant(6, 200), 9222286631145489920L);
        due("34 none", x.status(), 0);
        due("16 just within", x.below(200), 6);
        int[] boxes = {0, 1, 3, 5, 18, 50};
        for (int k = 0; k < 6; k++) {
            due("17 just within", x.box(k), boxes[k]);
        }
        due("18 just within", x.widest(1), 32);
        due("19 just within", x.clear(0, 0), 2);
        ShaftDiscs y = Checks.shaftOf("m0,0;g4,13,9;p2,37,1;g3,21,6;g4,1,3;g3,40,7;g5,24,7;");
        due("15 just within, less than 0", y.determinant(5, 106), -9223334284673417216L);
        due("15 the next is not", y.determinant(6, 106), OVER);
        due("34 OVER", y.status(), 6);

        ShaftDiscs w = Checks.shaftOf(WHEELS);
        due("15 the last mark", w.determinant(6, 108), 9076326777470582784L);
        due("16 the last mark", w.below(108), 6);
        due("34 none", w.status(), 0);
        due("15 the first mark that is OVER", w.determinant(6, 109), OVER);
        due("16 the first mark that is OVER", w.below(109), OVER);
        due("34 OVER", w.status(), 6);
        due("15 number 5 is not", w.determinant(5, 109), -6476947141294816L);
        due("34 none", w.status(), 0);
    }

    private static void overDue(String text, int m, int number, long ahead) {
        ShaftDiscs x = Checks.shaftOf("m0,0;" + text);
        due("15 OVER of " + text, x.determinant(number, m), OVER);
        due("34 OVER of " + text, x.status(), 6);
        due("15 the one ahead of " + text, x.determinant(number - 1, m), ahead);
        due("34 none of " + text, x.status(), 0);
        due("16 OVER of " + text, x.below(m), OVER);
        due("34 OVER of " + text, x.status(), 6);
    }

    /** A product is beyond a long, whatever the difference is. */
    private static void productBeyondALong() {
        // D times the one ahead alone; the difference would be -8649268811427479552
        overDue("g5,26,2;g5,22,3;g1,4,6;g1,32,2;g2,28,5;", 58, 5, 86431151685632L);
        // the SPRING's product alone: -10313730230329540608
        overDue("g1,6,9;g3,3,2;g1,40,8;g1,35,2;g3,22,1;g4,32,9;", 2, 6, -320951631740928L);
        // both; the difference would be 7722134835472367616
        overDue("g2,31,8;w2,3,3;g5,8,9;g4,18,9;g3,32,9;t1,33,5;", 47, 6, -193962962792218624L);
    }

    /** Both products are within a long, their difference is not. */
    private static void differenceBeyondALong() {
        // -25893498834124800 less 9198954082625126400
        overDue("g4,24,8;g3,19,8;g3,20,1;g2,2,1;g5,24,7;g1,12,4;", 5, 6, -6321654988800L);
        // 9061600190980423680 less -164690499490283520
        overDue("g5,35,7;g1,8,5;g5,9,3;g5,22,9;s4,7,2;g1,28,0;", 9, 6, -1072632598364160L);
    }

    private static void oneAheadIsOver() {
        ShaftDiscs h = Checks.shaftOf(HEAVY);
        long[] want = {1, -3840, 58342400, -3545645056000L, 861918524866560000L};
        for (int i = 0; i <= 4; i++) {
            due("15 number " + i, h.determinant(i, 200), want[i]);
            due("34 none", h.status(), 0);
        }
        due("15 that one", h.determinant(5, 200), OVER);
        due("15 one ahead", h.determinant(6, 200), OVER);
        due("34 OVER", h.status(), 6);
        // a SPRING of 0 and a number of 0 do not hide what is OVER ahead of them
        ShaftDiscs z = Checks.shaftOf(HEAVY);
        z.change(4, K, 0);
        due("15 ahead of a SPRING of 0", z.determinant(5, 200), OVER);
        due("15 behind it", z.determinant(6, 200), OVER);
        due("16 one ahead", z.below(200), OVER);
    }

    private static void boxesOfWholeSpeeds() {
        ShaftDiscs x = Checks.shaftOf(PAIR);
        ShaftDiscs y = Checks.shaftOf(TWOS);
        for (int k = 0; k <= 40; k++) {
            x.change(0, K, k);
            y.change(0, K, k);
            due("17 the lowest", x.box(0), 0);
            due("17 twice K", x.box(1), 2 * k);
            due("17 K", y.box(1), k);
            due("16 not below itself", x.below(2 * k), k == 0 ? 0 : 1);
            due("16 below the next mark", x.below(2 * k + 1), 2);
        }
        // K times 4 by 3: between two marks
        ShaftDiscs z = Checks.shaftOf("m0,0;p1,0,0;p3,0,0;");
        for (int k = 0; k <= 40; k++) {
            z.change(0, K, k);
            due("17 between two marks", z.box(1), 4 * k / 3);
        }
        ShaftDiscs six = Checks.shaftOf(SIX_TIED);
        int[] boxes = {9, 19, 49, 89, 129, 158};
        for (int k = 0; k < 6; k++) {
            due("17 of six, " + k, six.box(k), boxes[k]);
            due("16 at LOW", six.below(boxes[k]), k);
            due("16 at HIGH", six.below(boxes[k] + 1), k + 1);
        }
        due("34 none", six.status(), 0);
    }

    /** Where a SPRING is 0, BELOW falls as it will: the halving is followed, not the speeds. */
    private static void boxesByHalvingAlone() {
        ShaftDiscs six = Checks.shaftOf("m0,0;t1,0,6;p1,0,0;");
        due("17 BELOW 6 is 0, and 6 is halved at", six.box(0), 6);
        due("17 and the other one", six.box(1), 6);
        due("18 both alike", six.widest(0), 1);
        due("18 not apart", six.widest(1), 0);
        due("19 0 is clear by it", six.clear(0, 5), 0);
        ShaftDiscs five = Checks.shaftOf("m0,0;t1,0,5;p1,0,0;");
        due("17 5 is not halved at for 0", five.box(0), 0);
        due("17 5 is for 1", five.box(1), 5);
    }

    private static void boxesOver() {
        ShaftDiscs w = Checks.shaftOf(WHEELS);
        for (int k = 0; k < 6; k++) {
            w.below(0);
            due("17 BELOW 200 is OVER, though all are below 20", w.box(k), OVER);
            due("34 OVER", w.status(), 6);
        }
        due("16 all are below 20", w.below(20), 6);
        due("18 OVER: any BOX is", w.widest(0), OVER);
        due("18 OVER: any BOX is", w.widest(1), OVER);
        due("34 OVER", w.status(), 6);
        due("16 none", w.below(0), 0);
        due("19 OVER: any BOX is", w.clear(200, 0), OVER);
        due("34 OVER", w.status(), 6);
        due("17 BAD ahead of OVER", w.box(6), BAD);
        due("18 BAD ahead of OVER", w.widest(2), BAD);
        due("19 BAD ahead of OVER", w.clear(201, 0), BAD);
        due("15 BAD ahead of OVER", w.determinant(6, 201), BAD);
        due("16 BAD ahead of OVER", w.below(201), BAD);
        due("34 OVER yet", w.status(), 6);
    }

    private static void widest() {
        ShaftDiscs six = Checks.shaftOf(SIX_TIED);
        // 10, 30, 40, 40, 29 apart
        due("18 the first of two", six.widest(0), 3);
        due("18 how far", six.widest(1), 40);
        ShaftDiscs two = Checks.shaftOf("m0,0;p1,0,0;p1,0,0;");
        due("18 none apart: the first", two.widest(0), 1);
        due("18 none apart: 0", two.widest(1), 0);
        ShaftDiscs all = Checks.shaftOf("m0,0;p1,0,0;p1,0,0;p1,0,0;p1,0,0;p1,0,0;p1,0,0;");
        due("18 none of six apart: the first", all.widest(0), 1);
        due("18 none of six apart: 0", all.widest(1), 0);
        ShaftDiscs last = Checks.shaftOf(CHAIN);
        // 0, 1, 3
        due("18 the last", last.widest(0), 2);
        due("18 how far", last.widest(1), 2);
        ShaftDiscs ties = Checks.shaftOf("m0,0;t1,0,1;t1,0,4;t1,0,9;");
        due("18 the widest, not the first", ties.widest(0), 2);
        due("18 how far", ties.widest(1), 5);
        due("34 none", ties.status(), 0);
    }

    private static void clear() {
        // 9, 19, 49, 89, 129, 158
        int[][] of = {
            {0, 0, 0}, {0, 8, 0}, {0, 9, 29}, {1, 8, 28}, {1, 7, 1}, {9, 0, 10}, {8, 0, 8}, {10, 0, 10}, {10, 1, 11},
            {14, 4, 14}, {14, 5, 25}, {15, 4, 24}, {19, 9, 29}, {29, 9, 29}, {30, 9, 30}, {39, 9, 39}, {40, 9, 59},
            {148, 9, 148}, {149, 9, 168}, {158, 0, 159}, {158, 9, 168}, {167, 9, 168}, {168, 9, 168}, {199, 9, 199},
            {200, 0, 200}, {200, 9, 200}};
        ShaftDiscs x = Checks.shaftOf(SIX_TIED);
        for (int[] one : of) {
            due("19 from " + one[0] + " by " + one[1], x.clear(one[0], one[1]), one[2]);
        }
        due("34 none", x.status(), 0);
        for (int t = 0; t <= 9; t++) {
            due("19 more than t, not t", Checks.shaftOf("m0,0;p1,0,0;p1,0,0;").clear(0, t), t + 1);
        }
    }
}
