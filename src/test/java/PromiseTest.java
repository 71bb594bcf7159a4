/**
 * Each promise of the document by hand-reckoned answers: what is ordinary, the edges, what is
 * refused, and what status() answers behind it.
 */
public final class PromiseTest {
    private static final int NONE = -1000000, BAD = -1000001, STATE = -1000002, FULL = -1000003;
    private static final int NULL = -1000011, PLACE = -1000012, KIND = -1000013;
    private static final int SIZE = -1000014, STORE = -1000015, OVER = -1000016;

    /** Two plain discs of weight 1, a spring of 10: they swing at 0 and 20. */
    private static final String PAIR = "m1,0;p1,10,0;p1,0,0;";
    /** Two tied discs: they swing at 4 and 12. */
    private static final String TIES = "m0,9;t1,4,4;t1,4,4;";
    /** One disc of each kind. */
    private static final String EACH = "m1,5;p2,30,0;g1,20,7;w1,10,3;t2,8,5;s1,7,2;p1,9,9;";
    /** So heavy that the sixth determinant is beyond a long at every mark. */
    private static final String HEAVY =
            "m20,0;g5,40,0;g5,40,0;g5,40,0;g5,40,0;g5,40,0;g5,40,0;";

    private static final Checks C = new Checks();

    public static void main(String[] args) {
        promises01to05();
        promises06to08();
        faults();
        promise09();
        promises10to13();
        promise14();
        promises15to17();
        promises18to19();
        promise20();
        promises21to22();
        promise23();
        promise24();
        promise25();
        promise26();
        promises27to28();
        promises29to32();
        promise33();
        promise34();
        C.end("PromiseTest");
    }

    private static void due(String call, long got, long want) {
        C.due(call, got, want);
    }

    private static void promises01to05() {
        due("NONE", ShaftDiscs.NONE, NONE);
        due("BAD", ShaftDiscs.BAD, BAD);
        due("STATE", ShaftDiscs.STATE, STATE);
        due("FULL", ShaftDiscs.FULL, FULL);
        ShaftDiscs x = new ShaftDiscs();
        for (int what = 0; what <= 6; what++) {
            due("1 new count", x.count(what), 0);
        }
        due("1 new fault", x.fault(), 0);
        due("1 new status", x.status(), 0);
        due("1 new trace", x.trace(0), NONE);
        due("1 new undo", x.undo(), STATE);

        due("2 row", x.row(0, 0, 3), 3);
        due("2 row empty", x.row(7, 2, 0), 0);
        due("2 row most", x.row(1, 1, 40), 40);
        due("2 rows", x.count(0), 3);
        due("2 row -1", x.row(-1, 0, 1), BAD);
        due("2 row 8", x.row(8, 0, 1), BAD);
        due("2 lane -1", x.row(0, -1, 1), BAD);
        due("2 lane 3", x.row(0, 3, 1), BAD);
        due("2 n 41", x.row(0, 0, 41), BAD);
        due("2 BAD ahead of SIZE", x.row(0, 3, -1), BAD);
        due("2 SIZE", x.row(0, 0, -1), SIZE);
        due("2 status", x.status(), 4);
        due("2 SIZE least", x.row(2, 0, Integer.MIN_VALUE), SIZE);
        due("2 found makes none", x.count(0), 3);

        due("3 byte", x.set(0, 0, 127), 127);
        due("3 byte wraps", x.set(0, 1, 200), -56);
        due("3 byte lowest bits", x.set(0, 2, 0x12345601), 1);
        due("3 status", x.status(), 0);
        due("3 short wraps", x.set(1, 39, 40000), -25536);
        due("3 PLACE", x.set(0, 3, 1), PLACE);
        due("3 status", x.status(), 2);
        due("3 PLACE -1", x.set(0, -1, 1), PLACE);
        due("3 PLACE of none", x.set(7, 0, 1), PLACE);
        due("3 NULL", x.set(5, 0, 1), NULL);
        due("3 status", x.status(), 1);
        due("3 BAD", x.set(8, 0, 1), BAD);
        due("3 BAD", x.set(-1, 0, 1), BAD);
        due("3 status stays", x.status(), 1);
        due("3 row int", x.row(2, 2, 1), 1);
        due("3 int", x.set(2, 0, Integer.MIN_VALUE), Integer.MIN_VALUE);
        copies();
        drops();
    }

    private static void copies() {
        ShaftDiscs x = Checks.shaftOf(TIES);
        x.row(0, 0, 4);
        x.set(0, 0, 4);
        x.set(0, 1, 12);
        due("4 overlapping", x.copy(0, 0, 0, 1, 3), 3);
        due("4 overlap kept what was ahead", x.who(0, 3, 0, 1, 2), 4);
        x.row(1, 0, 2);
        due("4 to the end", x.copy(0, 1, 1, 0, 2), 2);
        due("4 came", x.who(0, 3, 1, 0, 2), 4);
        due("4 none at the end", x.copy(0, 4, 1, 2, 0), 0);
        due("4 status", x.status(), 0);
        due("4 i", x.copy(0, -1, 1, 0, 1), PLACE);
        due("4 j", x.copy(0, 0, 1, -1, 1), PLACE);
        due("4 n", x.copy(0, 0, 1, 0, -1), PLACE);
        due("4 beyond a", x.copy(0, 3, 1, 0, 2), PLACE);
        due("4 beyond b", x.copy(0, 0, 1, 1, 2), PLACE);
        due("4 wraps", x.copy(0, Integer.MAX_VALUE, 1, 0, 1), PLACE);
        due("4 wraps", x.copy(0, 1, 1, 1, Integer.MAX_VALUE), PLACE);
        due("4 status", x.status(), 2);
        x.row(2, 1, 2);
        due("4 STORE ahead of PLACE", x.copy(0, -1, 2, 0, 1), STORE);
        due("4 status", x.status(), 5);
        due("4 NULL", x.copy(0, 0, 3, 0, 0), NULL);
        due("4 NULL", x.copy(3, 0, 0, 0, 0), NULL);
        due("4 status", x.status(), 1);
        due("4 BAD", x.copy(8, 0, 3, 0, 0), BAD);
        due("4 BAD ahead of NULL", x.copy(3, 0, -1, 0, 0), BAD);
    }

    private static void drops() {
        ShaftDiscs x = Checks.shaftOf(TIES);
        x.row(3, 0, 2);
        x.set(3, 0, 4);
        due("5 drop", x.drop(3), 2);
        due("5 gone", x.count(0), 0);
        due("5 status", x.status(), 0);
        due("5 NULL", x.drop(3), NULL);
        due("5 status", x.status(), 1);
        due("5 BAD", x.drop(8), BAD);
        due("5 BAD", x.drop(-1), BAD);
        x.row(3, 0, 0);
        due("5 drop of none", x.drop(3), 0);
        x.row(3, 0, 2);
        x.set(3, 1, 12);
        due("2 ITEMS are 0 anew", x.who(0, 2, 3, 0, 2), 0);
        due("3 ITEM 0", x.set(3, 0, 4), 4);
        due("3 both", x.who(0, 2, 3, 0, 2), 1);
        x.row(3, 0, 2);
        x.set(3, 0, 4);
        due("2 in place of what is there", x.who(0, 2, 3, 0, 2), 0);
    }

    private static void promises06to08() {
        ShaftDiscs x = new ShaftDiscs();
        due("6 least", x.feed(0), 1);
        due("6 most", x.feed(255), 2);
        due("6 BAD", x.feed(256), BAD);
        due("6 BAD", x.feed(-1), BAD);
        for (int i = 3; i <= 80; i++) {
            due("6 feed", x.feed('a'), i);
        }
        due("6 FULL", x.feed('a'), FULL);
        due("6 BAD ahead of FULL", x.feed(256), BAD);
        due("6 count", x.count(6), 80);
        due("7 none of the bytes stands", x.shaft(), -1000100);
        due("7 empty then", x.count(6), 0);

        due("7 two discs", Checks.read(x, PAIR), 2);
        due("7 empty then", x.count(6), 0);
        due("8 the latest stays", x.fault(), 1);
        due("7 mark", x.count(2), 10);
        x.change(0, 1, 5);
        due("7 a fault", Checks.read(x, "m0,0;p1,0,0;p1,41,0;"), -1000115);
        due("8 fault", x.fault(), 2);
        due("7 all stays", x.count(2) * 10 + x.disc(0, 1), 105);
        due("7 acts stay", x.count(5), 1);
        due("7 six discs", Checks.read(x, EACH), 6);
        due("7 no act can be undone", x.undo(), STATE);
        for (int kind = 1; kind <= 5; kind++) {
            due("7 sorts", x.kind(kind - 1), kind);
        }
        due("7 leading noughts", Checks.read(x, "m09,09;p05,00,09;p1,0,0;"), 2);
        due("7 leading noughts", x.count(2), 99);
        due("7 J", x.disc(0, 0), 5);
        due("7 N", x.disc(0, 2), 9);
        due("7 most", Checks.read(x, "m20,0;w5,40,9;w5,40,9;w5,40,9;w5,40,9;w5,40,9;w5,40,9;"), 6);
    }

    private static void faultDue(String text, int place, int number) {
        ShaftDiscs x = new ShaftDiscs();
        due("7 " + text, Checks.read(x, text), -1000100 - place);
        due("8 " + text, x.fault(), number);
        due("7 no shaft by " + text, x.count(1), 0);
    }

    private static void faults() {
        faultDue("", 0, 1);
        faultDue("p", 0, 1);
        faultDue("m", 1, 1);
        faultDue("m,", 1, 1);
        faultDue("m21,0;", 1, 2);
        faultDue("m99,0;", 1, 2);
        faultDue("m000,0;", 1, 1);
        faultDue("m1234,0;", 1, 1);
        faultDue("m1;0;", 2, 1);
        faultDue("m1 ,0;", 2, 1);
        faultDue("m1,10;", 3, 2);
        faultDue("m20,0", 5, 1);
        faultDue("m20,1;", 4, 2);
        faultDue("m20,111;", 4, 1);
        faultDue("m1,1,", 4, 1);
        faultDue("m1,1;", 5, 1);
        faultDue("m1,1;m", 5, 1);
        faultDue("m1,1;x1,1,1;", 5, 1);
        faultDue("m1,1;P1,1,1;", 5, 1);
        faultDue("m1,1;p", 6, 1);
        faultDue("m1,1;p0,1,1;", 6, 2);
        faultDue("m1,1;p6,1,1;", 6, 2);
        faultDue("m1,1;p-1,1,1;", 6, 1);
        faultDue("m1,1;p1,41,1;", 8, 2);
        faultDue("m1,1;p1,400,1;", 8, 1);
        faultDue("m1,1;p1,40,10;", 11, 2);
        faultDue("m1,1;p1,40,1,", 12, 1);
        faultDue("m1,1;p1,40,1;", 13, 1);
        faultDue("m1,1;p1,40,1;q", 13, 1);
        faultDue("m1,1;p1,1,1;p1,1,1;;", 19, 1);
        faultDue("m1,1;p1,1,1;p1,1,1; ", 19, 1);
        faultDue("m1,1;p1,1,1;p1,1,1;1", 19, 1);
        String six = "m0,0;p1,0,0;g1,0,0;w1,0,0;t1,0,0;s1,0,0;p1,0,0;";
        faultDue(six + "p", 47, 3);
        faultDue(six + "s1,0,0;", 47, 3);
        faultDue(six + "m", 47, 1);
        faultDue(six + ";", 47, 1);
        faultDue("m0,0;p1,0,0;g1,0,0;w1,0,0;t1,0,0;s1,0,0;p1,0,99;p", 45, 2);
        faultDue("m0,0;p" + (char) 178 + ",0,0;", 6, 1);
    }

    private static void promise09() {
        ShaftDiscs x = Checks.shaftOf(EACH);
        x.change(0, 0, 5);
        x.change(1, 1, 40);
        x.change(2, 2, 9);
        x.become(3, 5);
        x.mark(200);
        x.swap(0, 5);
        due("9 acts", x.count(5), 6);
        due("9 swapped", x.disc(5, 0), 5);
        due("9 undo swap", x.undo(), 5);
        due("9 places", x.disc(0, 0), 5);
        due("9 undo mark", x.undo(), 4);
        due("9 mark", x.count(2), 15);
        due("9 undo kind", x.undo(), 3);
        due("9 kind", x.kind(3), 4);
        due("9 undo N", x.undo(), 2);
        due("9 N", x.disc(2, 2), 3);
        due("9 undo K", x.undo(), 1);
        due("9 K", x.disc(1, 1), 20);
        due("9 undo J", x.undo(), 0);
        due("9 J", x.disc(0, 0), 2);
        due("9 STATE", x.undo(), STATE);
        for (int i = 1; i <= 30; i++) {
            x.mark(i);
        }
        due("9 24 at most", x.count(5), 24);
        for (int left = 23; left >= 0; left--) {
            due("9 undo", x.undo(), left);
        }
        due("9 the oldest are forgotten", x.count(2), 6);
        due("9 STATE", x.undo(), STATE);
        manyActsOfAllSorts();
    }

    /** 25 acts, no two neighbours of one sort: what is kept of each must move together. */
    private static void manyActsOfAllSorts() {
        ShaftDiscs x = Checks.shaftOf(EACH);
        for (int round = 0; round < 5; round++) {
            x.change(round, 0, 5 - round);
            x.become(5, 5 - round);
            x.mark(100 + round);
            x.swap(round, 5);
            x.change(2, 1, 40 - round);
        }
        due("9 24 at most", x.count(5), 24);
        for (int left = 23; left >= 0; left--) {
            due("9 undo", x.undo(), left);
        }
        due("9 all but the first act is undone", x.disc(0, 0), 5);
        int[][] want = {{5, 30, 0, 1}, {1, 20, 7, 2}, {1, 10, 3, 3}, {2, 8, 5, 4}, {1, 7, 2, 5}, {1, 9, 9, 1}};
        for (int disc = 0; disc < 6; disc++) {
            for (int which = 0; which < 3; which++) {
                due("9 told " + disc + " " + which, x.disc(disc, which), want[disc][which]);
            }
            due("9 kind " + disc, x.kind(disc), want[disc][3]);
        }
        due("9 mark", x.count(2), 15);
    }

    private static void promises10to13() {
        ShaftDiscs x = Checks.shaftOf(EACH);
        int[] least = {1, 0, 0};
        int[] most = {5, 40, 9};
        for (int which = 0; which < 3; which++) {
            int was = x.disc(3, which);
            due("10 least", x.change(3, which, least[which]), was);
            due("10 most", x.change(3, which, most[which]), least[which]);
            due("10 is", x.disc(3, which), most[which]);
            due("10 too little", x.change(3, which, least[which] - 1), BAD);
            due("10 too much", x.change(3, which, most[which] + 1), BAD);
        }
        due("10 acts", x.count(5), 6);
        due("10 disc", x.change(6, 0, 1), BAD);
        due("10 disc", x.change(-1, 0, 1), BAD);
        due("10 which", x.change(0, 3, 1), BAD);
        due("10 which", x.change(0, -1, 1), BAD);

        due("11 become", x.become(0, 5), 1);
        due("11 STATE", x.become(0, 5), STATE);
        due("11 kind", x.kind(0), 5);
        due("11 BAD", x.become(0, 0), BAD);
        due("11 BAD", x.become(0, 6), BAD);
        due("11 BAD", x.become(6, 1), BAD);
        due("11 refused are no acts", x.count(5), 7);

        due("12 mark", x.mark(0), 15);
        due("12 mark", x.mark(200), 0);
        due("12 BAD", x.mark(201), BAD);
        due("12 BAD", x.mark(-1), BAD);
        due("12 mark", x.count(2), 200);
        due("12 STATE ahead of BAD", new ShaftDiscs().mark(201), STATE);

        ShaftDiscs y = Checks.shaftOf(EACH);
        due("13 swap", y.swap(4, 1), 4);
        due("13 neighbours", y.swap(0, 1), 2);
        due("13 kinds", y.kind(0) * 100 + y.kind(1) * 10 + y.kind(4), 512);
        due("13 J, K, N", y.disc(4, 0) * 1000 + y.disc(4, 1) * 10 + y.disc(4, 2), 1207);
        due("13 STATE", y.swap(2, 2), STATE);
        due("13 BAD", y.swap(0, 6), BAD);
        due("13 BAD", y.swap(-1, 0), BAD);
        due("13 BAD ahead of STATE", y.swap(6, 6), BAD);
        due("13 acts", y.count(5), 2);
    }

    private static void promise14() {
        ShaftDiscs x = Checks.shaftOf(EACH);
        int[][] want = {
            {2, 30, 0, 1, 2, 30, 0},
            {1, 20, 7, 2, 4, 80, 0},
            {1, 10, 3, 2, 16, 40, 0},
            {2, 8, 5, 2, 8, 32, 20},
            {1, 7, 2, 2, 4, 12, 8},
            {1, 9, 9, 2, 4, 0, 0}};
        for (int disc = 0; disc < 6; disc++) {
            for (int what = 0; what < 7; what++) {
                due("14 disc " + disc + " " + what, x.disc(disc, what), want[disc][what]);
            }
        }
        due("14 BAD", x.disc(0, 7), BAD);
        due("14 BAD", x.disc(0, -1), BAD);
        due("14 BAD", x.disc(6, 0), BAD);
        due("14 BAD", x.disc(-1, 0), BAD);
        due("14 BAD", new ShaftDiscs().disc(0, 0), BAD);
    }

    private static void promises15to17() {
        ShaftDiscs x = Checks.shaftOf(PAIR);
        due("15 number 0", x.determinant(0, 200), 1);
        due("15 number 1", x.determinant(1, 3), 7);
        due("15 number 2", x.determinant(2, 3), -51);
        due("15 is 0", x.determinant(2, 20), 0);
        due("15 BAD", x.determinant(3, 0), BAD);
        due("15 BAD", x.determinant(-1, 0), BAD);
        due("15 BAD", x.determinant(0, 201), BAD);
        due("15 BAD", x.determinant(0, -1), BAD);
        due("15 STATE ahead of BAD", new ShaftDiscs().determinant(-1, 0), STATE);
        due("16 0", x.below(0), 0);
        due("16 1", x.below(1), 1);
        due("16 10", x.below(10), 1);
        due("16 20", x.below(20), 1);
        due("16 21", x.below(21), 2);
        due("16 BAD", x.below(-1), BAD);
        due("16 BAD", x.below(201), BAD);
        due("16 STATE ahead of BAD", new ShaftDiscs().below(-1), STATE);
        due("17 0", x.box(0), 0);
        due("17 1", x.box(1), 20);
        due("17 BAD", x.box(2), BAD);
        due("17 BAD", x.box(-1), BAD);
        due("17 BAD without a shaft", new ShaftDiscs().box(0), BAD);
        due("17 between marks", Checks.shaftOf("m0,0;p2,9,0;p1,0,0;").box(1), 13);

        ShaftDiscs h = Checks.shaftOf(HEAVY);
        due("15 OVER", h.determinant(6, 0), OVER);
        due("15 status", h.status(), 6);
        due("15 the one ahead is not", h.determinant(5, 0), 109951162777600000L);
        due("15 status", h.status(), 0);
        due("15 one ahead is OVER", h.determinant(6, 200), OVER);
        due("16 OVER", h.below(0), OVER);
        due("16 status", h.status(), 6);
        h.determinant(0, 0);
        due("17 OVER", h.box(0), OVER);
        due("17 status", h.status(), 6);
    }

    private static void promises18to19() {
        ShaftDiscs x = Checks.shaftOf(PAIR);
        due("18 which", x.widest(0), 1);
        due("18 how far", x.widest(1), 20);
        due("18 status", x.status(), 0);
        due("18 BAD", x.widest(2), BAD);
        due("18 BAD", x.widest(-1), BAD);
        due("18 STATE ahead of BAD", new ShaftDiscs().widest(2), STATE);
        // no springs between them: each swings by its own tie
        ShaftDiscs t = Checks.shaftOf("m0,0;t1,0,7;t1,0,2;t1,0,7;t1,0,9;");
        due("18 boxes", t.box(0) * 1000 + t.box(1) * 100 + t.box(2) * 10 + t.box(3), 2779);
        due("18 the first of the widest", t.widest(0), 1);
        due("18 how far", t.widest(1), 5);
        ShaftDiscs e = Checks.shaftOf("m0,0;t1,0,1;t1,0,3;t1,0,5;");
        due("18 of two the first", e.widest(0), 1);

        due("19 0 0", x.clear(0, 0), 1);
        due("19 0 9", x.clear(0, 9), 10);
        due("19 11 9", x.clear(11, 9), 30);
        due("19 11 8", x.clear(11, 8), 11);
        due("19 200", x.clear(200, 9), 200);
        due("19 BAD", x.clear(201, 0), BAD);
        due("19 BAD", x.clear(-1, 0), BAD);
        due("19 BAD", x.clear(0, 10), BAD);
        due("19 BAD", x.clear(0, -1), BAD);
        due("19 STATE ahead of BAD", new ShaftDiscs().clear(-1, 0), STATE);

        ShaftDiscs h = Checks.shaftOf(HEAVY);
        due("18 OVER", h.widest(1), OVER);
        due("18 status", h.status(), 6);
        h.determinant(0, 0);
        due("19 OVER", h.clear(0, 0), OVER);
        due("19 status", h.status(), 6);
        due("19 BAD ahead of OVER", h.clear(0, 10), BAD);
    }

    private static void promise20() {
        ShaftDiscs x = Checks.shaftOf(PAIR);
        due("20 none is needed", x.stiffer(0, 1), 0);
        due("20 one stays below", x.stiffer(0, 0), NONE);
        due("20 status", x.status(), 0);
        x.mark(30);
        due("20 to 15", x.stiffer(0, 1), 5);
        due("20 nothing changes", x.disc(0, 1) + x.count(5), 11);
        x.become(0, 5);
        due("20 half of it", x.stiffer(0, 1), 20);
        x.become(0, 1);
        x.change(0, 1, 0);
        x.mark(120);
        due("20 most", x.stiffer(0, 1), 60);
        x.mark(121);
        due("20 more than most", x.stiffer(0, 1), NONE);
        due("20 six is enough", x.stiffer(0, 6), 0);
        due("20 the last", x.stiffer(1, 1), BAD);
        due("20 BAD", x.stiffer(-1, 1), BAD);
        due("20 BAD", x.stiffer(2, 1), BAD);
        due("20 BAD", x.stiffer(0, 7), BAD);
        due("20 BAD", x.stiffer(0, -1), BAD);
        due("20 BAD without a shaft", new ShaftDiscs().stiffer(0, 0), BAD);
        ShaftDiscs h = Checks.shaftOf(HEAVY);
        due("20 OVER", h.stiffer(0, 6), OVER);
        due("20 status", h.status(), 6);
    }

    private static void promises21to22() {
        ShaftDiscs x = Checks.shaftOf("m0,0;p1,1,0;p2,0,0;p3,1,0;");
        due("21 how many", x.sets(3, 0), 2);
        due("21 in all", x.sets(3, 1), 0);
        due("21 in any", x.sets(3, 2), 7);
        due("21 in all", x.sets(5, 1), 6);
        due("21 in any", x.sets(5, 2), 6);
        due("21 the empty one", x.sets(0, 0), 1);
        due("21 none", x.sets(7, 0), 0);
        due("21 none", x.sets(99, 1), 0);
        due("21 none", x.sets(99, 2), 0);
        due("21 BAD", x.sets(100, 0), BAD);
        due("21 BAD", x.sets(-1, 0), BAD);
        due("21 BAD", x.sets(0, 3), BAD);
        due("21 BAD", x.sets(0, -1), BAD);
        due("21 STATE ahead of BAD", new ShaftDiscs().sets(100, 0), STATE);

        int[] of11 = {6, 0, 5};
        for (int disc = 0; disc < 3; disc++) {
            due("22 of 11", x.share(disc, 11), of11[disc]);
            due("22 of 0", x.share(disc, 0), 0);
        }
        ShaftDiscs y = Checks.shaftOf("m0,0;p1,0,0;p1,1,0;p1,1,0;p1,1,0;");
        int[] of11y = {0, 4, 4, 3};
        for (int disc = 0; disc < 4; disc++) {
            due("22 of 11", y.share(disc, 11), of11y[disc]);
        }
        due("22 of 999", y.share(1, 999), 333);
        due("22 all K are 0", Checks.shaftOf("m0,0;p1,0,0;p1,0,0;").share(0, 9), 0);
        due("22 BAD", x.share(3, 0), BAD);
        due("22 BAD", x.share(-1, 0), BAD);
        due("22 BAD", x.share(0, 1000), BAD);
        due("22 BAD", x.share(0, -1), BAD);
        due("22 BAD", new ShaftDiscs().share(0, 0), BAD);
    }

    private static void promise23() {
        ShaftDiscs x = Checks.shaftOf(PAIR);
        x.mark(30);
        int[] want = {2, 1, 2, 1};
        for (int n = 0; n <= 3; n++) {
            due("23 of " + n, x.byTurns(n), want[n]);
        }
        due("23 nothing changes", x.count(3) * 100 + x.count(4) + x.count(5), 211);
        due("23 BAD", x.byTurns(4), BAD);
        due("23 BAD", x.byTurns(-1), BAD);
        due("23 STATE ahead of BAD", new ShaftDiscs().byTurns(4), STATE);
        ShaftDiscs h = Checks.shaftOf(HEAVY);
        h.set(0, 0, 0);
        due("23 OVER: as many as discs", h.byTurns(0), 6);
        due("23 status is that of the row", h.status(), 1);
    }

    private static void promise24() {
        ShaftDiscs x = Checks.shaftOf(TIES);
        x.row(1, 0, 3);
        x.set(1, 0, 99);
        x.set(1, 1, 4);
        x.set(1, 2, 12);
        due("24 kinds", x.who(0, 0, 1, 1, 2), 1 << 4);
        due("24 weights", x.who(0, 1, 1, 1, 2), 1 << 1);
        due("24 K: how many", x.who(0, 2, 1, 1, 2), 1);
        due("24 K: the least", x.who(0, 3, 1, 1, 2), 4);
        due("24 of the last one any K", x.who(1, 2, 1, 1, 1), 41);
        due("24 the least of these", x.who(1, 3, 1, 1, 1), 0);
        due("24 status", x.status(), 0);
        due("24 none", x.who(0, 2, 1, 0, 1), 0);
        due("24 none", x.who(0, 3, 1, 0, 1), NONE);
        due("24 none", x.who(0, 0, 1, 0, 1), 0);
        x.set(1, 0, -1);
        due("24 each has a box", x.who(0, 0, 1, 0, 1), 0);
        due("24 PLACE", x.who(0, 0, 1, 2, 2), PLACE);
        due("24 status", x.status(), 2);
        due("24 PLACE", x.who(0, 0, 1, -1, 1), PLACE);
        due("24 PLACE", x.who(0, 0, 1, Integer.MAX_VALUE, 1), PLACE);
        due("24 NULL ahead of PLACE", x.who(0, 0, 2, -1, 1), NULL);
        due("24 status", x.status(), 1);
        due("24 BAD disc", x.who(2, 0, 2, 0, 1), BAD);
        due("24 BAD which", x.who(0, 4, 2, 0, 1), BAD);
        due("24 BAD which", x.who(0, -1, 2, 0, 1), BAD);
        due("24 BAD row", x.who(0, 0, 8, 0, 1), BAD);
        due("24 BAD n", x.who(0, 0, 2, 0, 3), BAD);
        due("24 BAD n", x.who(0, 0, 2, 0, 0), BAD);
        due("24 nothing changes", x.kind(0) * 1000 + x.disc(0, 0) * 100 + x.disc(0, 1), 4104);
        ShaftDiscs h = Checks.shaftOf(HEAVY);
        h.row(0, 2, 1);
        due("24 where it is OVER it is not so", h.who(0, 0, 0, 0, 1), 0);
        due("24 status", h.status(), 0);
    }

    private static void fractionDue(ShaftDiscs x, int v, int p, long above, long below) {
        due("25 above of " + v + " by " + p, x.broken(v, p, 0), above);
        due("25 below of " + v + " by " + p, x.broken(v, p, 1), below);
    }

    private static void promise25() {
        ShaftDiscs x = Checks.shaftOf(PAIR);
        fractionDue(x, 1, 3, 7, 10);
        fractionDue(x, 2, 3, 3, 10);
        fractionDue(x, 2, 5, 1, 2);
        fractionDue(x, 2, 4, 2, 5);
        fractionDue(x, 0, 3, 0, 1);
        fractionDue(x, 6, 3, 0, 1);
        fractionDue(x, 1, 0, 1, 1);
        fractionDue(x, 2, 0, 0, 1);
        fractionDue(x, 2, 10, 1, 1);
        due("25 nothing changes", x.disc(0, 1), 10);
        x.mark(1);
        fractionDue(x, 2, 3, 3, 10);
        x.mark(10);
        // three discs of 1, springs of 10: at 0, 10, 30; one broken: 0, 0, 20; both: 0, 0, 0
        ShaftDiscs y = Checks.shaftOf("m1,0;p1,10,0;p1,10,0;p1,10,0;");
        fractionDue(y, 1, 3, 49, 100);
        fractionDue(y, 2, 3, 21, 50);
        fractionDue(y, 3, 3, 9, 100);
        due("25 BAD", x.broken(7, 0, 0), BAD);
        due("25 BAD", x.broken(-1, 0, 0), BAD);
        due("25 BAD", x.broken(0, 11, 0), BAD);
        due("25 BAD", x.broken(0, -1, 0), BAD);
        due("25 BAD", x.broken(0, 0, 2), BAD);
        due("25 BAD", x.broken(0, 0, -1), BAD);
        due("25 STATE ahead of BAD", new ShaftDiscs().broken(7, 0, 0), STATE);
        ShaftDiscs h = Checks.shaftOf(HEAVY);
        fractionDue(h, 6, 5, 0, 1);
        due("25 status is untouched", h.status(), 0);
    }

    private static void promise26() {
        ShaftDiscs x = Checks.shaftOf(PAIR);
        x.mark(15);
        int[] together = {0, 1, 3, 4, 6, 7, 9, 11};
        for (int n = 0; n < together.length; n++) {
            due("26 of " + n, x.drawn(n, 1, 0), together[n]);
            due("26 OVER of " + n, x.drawn(n, 1, 1), 0);
        }
        due("26 nothing changes", x.count(3) * 100 + x.count(4), 210);
        ShaftDiscs h = Checks.shaftOf(HEAVY);
        due("26 OVER adds none", h.drawn(40, 5, 0), 0);
        due("26 how often", h.drawn(40, 5, 1), 40);
        due("26 status is untouched", h.status(), 0);
        due("26 most", x.drawn(40, 999999, 1), 0);
        due("26 BAD", x.drawn(41, 1, 0), BAD);
        due("26 BAD", x.drawn(-1, 1, 0), BAD);
        due("26 BAD", x.drawn(0, 0, 0), BAD);
        due("26 BAD", x.drawn(0, 1000000, 0), BAD);
        due("26 BAD", x.drawn(0, 1, 2), BAD);
        due("26 BAD", x.drawn(0, 1, -1), BAD);
        due("26 STATE ahead of BAD", new ShaftDiscs().drawn(41, 1, 0), STATE);
    }

    private static void promises27to28() {
        ShaftDiscs x = new ShaftDiscs();
        due("27 BAD ahead of STATE", x.image(2), BAD);
        due("27 BAD", x.image(-1), BAD);
        due("27 STATE", x.image(1), STATE);
        due("28 BAD", x.restore(2), BAD);
        due("28 BAD", x.restore(-1), BAD);
        due("28 STATE", x.restore(1), STATE);
        Checks.read(x, PAIR);
        due("27 image", x.image(0), 1);
        due("28 the other one was not kept", x.restore(1), STATE);
        Checks.read(x, EACH);
        due("27 image", x.image(1), 1);
        x.mark(77);
        x.swap(0, 3);
        x.become(1, 1);
        x.change(2, 2, 0);
        due("28 restore", x.restore(1), 1);
        due("28 no act can be undone", x.undo(), STATE);
        due("28 mark", x.count(2), 15);
        due("28 kinds", x.kind(0) * 100 + x.kind(1) * 10 + x.kind(3), 124);
        due("28 N", x.disc(2, 2), 3);
        due("28 the other", x.restore(0), 1);
        due("28 discs", x.count(1), 2);
        x.change(0, 1, 33);
        due("28 again", x.restore(0), 1);
        due("28 K", x.disc(0, 1), 10);
        due("28 and back", x.restore(1), 1);
        due("28 discs", x.count(1), 6);
    }

    private static void askDue(ShaftDiscs x, int one, int what, int want, int... trace) {
        due("31 ask " + one + " " + what, x.ask(one, what), want);
        for (int i = 0; i < trace.length; i++) {
            due("32 trace " + one + " " + what + " " + i, x.trace(i), trace[i]);
        }
        due("32 no more", x.trace(trace.length), NONE);
    }

    private static void promises29to32() {
        ShaftDiscs x = Checks.shaftOf(EACH);
        due("29 kind", x.kind(5), 1);
        due("29 BAD", x.kind(6), BAD);
        due("29 BAD", x.kind(-1), BAD);
        int[] is = {1 | 2, 1 | 2 | 4, 1 | 2 | 8, 1 | 16, 1 | 16 | 32};
        for (int one = 0; one < 5; one++) {
            for (int kind = 0; kind < 6; kind++) {
                boolean so = (is[one] >> kind & 1) == 1;
                due("30 " + one + " as " + kind, x.as(one, kind), so ? one : KIND);
                due("30 status", x.status(), so ? 0 : 3);
            }
        }
        due("30 BAD", x.as(0, 6), BAD);
        due("30 BAD", x.as(0, -1), BAD);
        due("30 BAD", x.as(6, 0), BAD);

        askDue(x, 0, 0, 30 + 0 + 2, 11, 10, 21, 20);
        askDue(x, 0, 1, 0 + 2, 21, 20);
        askDue(x, 1, 0, -(20 + 2 * (1 + 1)), 12, 11, 10, 24, 21, 20);
        askDue(x, 1, 1, 2 * (1 + 1), 24, 21, 20);
        askDue(x, 2, 0, 10 + (2 + 1 - 1000), 11, 10, 22, 21, 20);
        askDue(x, 2, 1, 2 + 1 - 1000, 22, 21, 20);
        askDue(x, 3, 0, 8 - 100, 13, 10);
        askDue(x, 3, 1, 3 - (8 - 100), 23, 20, 13, 10);
        askDue(x, 4, 0, 2 * (7 - 100), 14, 13, 10);
        askDue(x, 4, 1, 4 - 2 * (7 - 100), 23, 20, 14, 13, 10);
        due("31 BAD", x.ask(0, 2), BAD);
        due("31 BAD", x.ask(0, -1), BAD);
        due("31 BAD", x.ask(6, 0), BAD);
        due("31 BAD leaves the trace", x.trace(0), 23);
        due("32 NONE", x.trace(-1), NONE);
        due("32 NONE", x.trace(16), NONE);
        due("32 NONE", x.trace(Integer.MAX_VALUE), NONE);
    }

    private static void promise33() {
        ShaftDiscs x = Checks.shaftOf(EACH);
        x.row(4, 0, 0);
        x.change(0, 0, 3);
        x.feed('m');
        int[] want = {1, 6, 15, 9, 84, 1, 1};
        for (int what = 0; what < 7; what++) {
            due("33 count " + what, x.count(what), want[what]);
        }
        due("33 BAD", x.count(7), BAD);
        due("33 BAD", x.count(-1), BAD);
    }

    private static void promise34() {
        ShaftDiscs x = Checks.shaftOf(HEAVY);
        x.below(0);
        due("34 OVER", x.status(), 6);
        x.below(201);
        x.mark(1);
        x.byTurns(0);
        x.broken(0, 0, 0);
        x.drawn(1, 1, 0);
        x.feed('x');
        x.shaft();
        x.disc(0, 0);
        x.sets(0, 0);
        x.share(0, 0);
        x.ask(0, 0);
        x.kind(0);
        x.image(0);
        x.undo();
        x.restore(1);
        x.count(0);
        due("34 of the latest that counts", x.status(), 6);
        x.row(0, 0, 1);
        due("34 row", x.status(), 0);
        x.as(0, 3);
        due("34 as", x.status(), 3);
        x.drop(0);
        due("34 drop", x.status(), 0);
        x.drop(0);
        due("34 NULL", x.status(), 1);
        x.as(0, 0);
        due("34 as", x.status(), 0);
    }
}
