/**
 * Terms: "What is refused, or found, changes nothing but status()." Each refused call, on both
 * sides of each limit, with its answer, and that all is behind it as it was. And of what is
 * FORETOLD: nothing changes.
 */
public final class RefusedTest implements Answers {
    private static final int STAYS = Twins.STAYS;
    private static final Checks C = new Checks();

    public static void main(String[] args) {
        rowsWithoutShaft();
        toldAndDoneWithoutShaft();
        speedsWithoutShaft();
        askedWithoutShaft();
        newest();
        rows();
        toldAndDone();
        nothingToUndo();
        speeds();
        foretold();
        asked();
        over();
        C.end("RefusedTest");
    }

    // ---- scenes

    private static void setRows(Twins t) {
        t.both(x -> x.row(0, 0, 4));
        t.both(x -> x.set(0, 1, 7));
        t.both(x -> x.set(0, 3, 9));
        t.both(x -> x.row(1, 1, 3));
        t.both(x -> x.set(1, 1, 11));
        t.both(x -> x.row(2, 2, 40));
        t.both(x -> x.set(2, 3, 13));
        t.both(x -> x.row(3, 0, 0));
        t.both(x -> x.row(4, 0, 2));
        t.both(x -> x.set(4, 1, 40));
    }

    /** No shaft; rows, a fault, a begun tape, and the finding STORE. */
    private static void bare(Twins t) {
        t.read("m21");
        setRows(t);
        t.feed(Twins.BEGUN);
        t.both(x -> x.copy(0, 0, 1, 0, 1));
    }

    /** A shaft, five acts, images, a trace, rows, a fault, a begun tape, and the finding STORE. */
    private static void full(Twins t, String text) {
        t.read("m0,0;q");
        t.read(text);
        t.both(x -> x.change(1, N, 3));
        t.both(x -> x.image(0));
        t.both(x -> x.mark(77));
        t.both(x -> x.swap(2, 4));
        t.both(x -> x.become(5, WHEEL));
        t.both(x -> x.image(1));
        t.both(x -> x.change(3, K, 33));
        t.both(x -> x.ask(1, 0));
        setRows(t);
        t.feed(Twins.BEGUN);
        t.both(x -> x.copy(0, 0, 1, 0, 1));
    }

    private static void untouched(Twins t) {
        t.read(EACH);
        t.feed(Twins.BEGUN);
    }

    private static void bareDue(String words, Twins.Call call, long want, int status) {
        Twins.leaves(C, "no shaft: " + words, RefusedTest::bare, call, want, status);
    }

    private static void bareDue(String words, Twins.Call call, long want) {
        bareDue(words, call, want, STAYS);
    }

    private static void fullDue(String words, Twins.Call call, long want, int status) {
        Twins.leaves(C, words, t -> full(t, EACH), call, want, status);
    }

    private static void fullDue(String words, Twins.Call call, long want) {
        fullDue(words, call, want, STAYS);
    }

    private static void heavyDue(String words, Twins.Call call, long want, int status) {
        Twins.leaves(C, "heavy: " + words, t -> full(t, HEAVY), call, want, status);
    }

    // ---- without a shaft

    private static void rowsWithoutShaft() {
        bareDue("2 row(-1, 0, 1)", x -> x.row(-1, 0, 1), BAD);
        bareDue("2 row(8, 0, 1)", x -> x.row(8, 0, 1), BAD);
        bareDue("2 row(0, 0, -1)", x -> x.row(0, 0, -1), SIZE, 4);
        bareDue("3 set(5, 0, 1)", x -> x.set(5, 0, 1), NULL, 1);
        bareDue("4 copy(0, 0, 5, 0, 1)", x -> x.copy(0, 0, 5, 0, 1), NULL, 1);
        bareDue("5 drop(5)", x -> x.drop(5), NULL, 1);
    }

    private static void toldAndDoneWithoutShaft() {
        bareDue("6 feed(-1)", x -> x.feed(-1), BAD);
        bareDue("6 feed(256)", x -> x.feed(256), BAD);
        bareDue("9 undo()", ShaftDiscs::undo, STATE);
        bareDue("10 change(0, 0, 1)", x -> x.change(0, J, 1), BAD);
        bareDue("10 change(-1, 0, 1)", x -> x.change(-1, J, 1), BAD);
        bareDue("11 become(0, 1)", x -> x.become(0, 1), BAD);
        bareDue("12 mark(0): no SHAFT", x -> x.mark(0), STATE);
        bareDue("12 mark(200): no SHAFT", x -> x.mark(200), STATE);
        bareDue("12 mark(-1): STATE ahead of BAD", x -> x.mark(-1), STATE);
        bareDue("12 mark(201): STATE ahead of BAD", x -> x.mark(201), STATE);
        bareDue("13 swap(0, 1)", x -> x.swap(0, 1), BAD);
        bareDue("13 swap(0, 0): BAD ahead of STATE", x -> x.swap(0, 0), BAD);
        bareDue("14 disc(0, 0)", x -> x.disc(0, 0), BAD);
    }

    private static void speedsWithoutShaft() {
        bareDue("15 determinant(0, 0): no SHAFT", x -> x.determinant(0, 0), STATE);
        bareDue("15 determinant(-1, 0): STATE ahead of BAD", x -> x.determinant(-1, 0), STATE);
        bareDue("15 determinant(0, 201): STATE ahead of BAD", x -> x.determinant(0, 201), STATE);
        bareDue("16 below(0): no SHAFT", x -> x.below(0), STATE);
        bareDue("16 below(201): STATE ahead of BAD", x -> x.below(201), STATE);
        bareDue("17 box(0)", x -> x.box(0), BAD);
        bareDue("18 widest(0): no SHAFT", x -> x.widest(0), STATE);
        bareDue("18 widest(2): STATE ahead of BAD", x -> x.widest(2), STATE);
        bareDue("19 clear(0, 0): no SHAFT", x -> x.clear(0, 0), STATE);
        bareDue("19 clear(201, 10): STATE ahead of BAD", x -> x.clear(201, 10), STATE);
        bareDue("20 stiffer(0, 0)", x -> x.stiffer(0, 0), BAD);
        bareDue("20 stiffer(-1, 0)", x -> x.stiffer(-1, 0), BAD);
        bareDue("21 sets(0, 0): no SHAFT", x -> x.sets(0, 0), STATE);
        bareDue("21 sets(100, 3): STATE ahead of BAD", x -> x.sets(100, 3), STATE);
        bareDue("22 share(0, 0)", x -> x.share(0, 0), BAD);
        bareDue("23 byTurns(0): no SHAFT", x -> x.byTurns(0), STATE);
        bareDue("23 byTurns(4): STATE ahead of BAD", x -> x.byTurns(4), STATE);
        bareDue("24 who(0, 0, 0, 0, 1)", x -> x.who(0, 0, 0, 0, 1), BAD);
        bareDue("24 who of a missing row: BAD ahead of NULL", x -> x.who(0, 0, 5, 0, 1), BAD);
        bareDue("25 broken(0, 0, 0): no SHAFT", x -> x.broken(0, 0, 0), STATE);
        bareDue("25 broken(7, 11, 2): STATE ahead of BAD", x -> x.broken(7, 11, 2), STATE);
        bareDue("26 drawn(0, 1, 0): no SHAFT", x -> x.drawn(0, 1, 0), STATE);
        bareDue("26 drawn(41, 0, 2): STATE ahead of BAD", x -> x.drawn(41, 0, 2), STATE);
        bareDue("27 image(0): no SHAFT", x -> x.image(0), STATE);
        bareDue("27 image(1): no SHAFT", x -> x.image(1), STATE);
        bareDue("27 image(-1): BAD ahead of STATE", x -> x.image(-1), BAD);
        bareDue("27 image(2): BAD ahead of STATE", x -> x.image(2), BAD);
        bareDue("28 restore(0): none was kept", x -> x.restore(0), STATE);
        bareDue("28 restore(1): none was kept", x -> x.restore(1), STATE);
        bareDue("28 restore(-1): BAD ahead of STATE", x -> x.restore(-1), BAD);
        bareDue("28 restore(2): BAD ahead of STATE", x -> x.restore(2), BAD);
    }

    private static void askedWithoutShaft() {
        bareDue("29 kind(0)", x -> x.kind(0), BAD);
        bareDue("30 as(0, 0)", x -> x.as(0, 0), BAD);
        bareDue("31 ask(0, 0)", x -> x.ask(0, 0), BAD);
        bareDue("32 trace(0)", x -> x.trace(0), NONE);
        bareDue("33 count(7)", x -> x.count(7), BAD);
        bareDue("33 count(-1)", x -> x.count(-1), BAD);
        bareDue("34 status()", ShaftDiscs::status, 5);
    }

    /** An object of which nothing was asked ahead: what is found is the first that status() tells. */
    private static void newest() {
        Twins.Scene none = t -> { };
        Twins.leaves(C, "new: 2 SIZE", none, x -> x.row(0, 0, -1), SIZE, 4);
        Twins.leaves(C, "new: 3 NULL", none, x -> x.set(0, 0, 0), NULL, 1);
        Twins.leaves(C, "new: 4 NULL", none, x -> x.copy(0, 0, 0, 0, 0), NULL, 1);
        Twins.leaves(C, "new: 5 NULL", none, x -> x.drop(7), NULL, 1);
        Twins.leaves(C, "new: 2 BAD", none, x -> x.row(8, 0, 0), BAD, 0);
        Twins.leaves(C, "new: 6 BAD", none, x -> x.feed(256), BAD, 0);
        Twins.leaves(C, "new: 9 STATE", none, ShaftDiscs::undo, STATE, 0);
        Twins.leaves(C, "new: 12 STATE", none, x -> x.mark(10), STATE, 0);
        Twins.leaves(C, "new: 16 STATE", none, x -> x.below(10), STATE, 0);
        Twins.leaves(C, "new: 27 STATE", none, x -> x.image(0), STATE, 0);
        Twins.leaves(C, "new: 28 STATE", none, x -> x.restore(0), STATE, 0);
    }

    // ---- with a shaft

    private static void rows() {
        fullDue("2 row(-1, 0, 1)", x -> x.row(-1, 0, 1), BAD);
        fullDue("2 row(8, 0, 1)", x -> x.row(8, 0, 1), BAD);
        fullDue("2 row(0, -1, 1)", x -> x.row(0, -1, 1), BAD);
        fullDue("2 row(0, 3, 1)", x -> x.row(0, 3, 1), BAD);
        fullDue("2 row(0, 0, 41)", x -> x.row(0, 0, 41), BAD);
        fullDue("2 row(0, 0, most)", x -> x.row(0, 0, MOST), BAD);
        fullDue("2 row(8, 0, -1): BAD ahead of SIZE", x -> x.row(8, 0, -1), BAD);
        fullDue("2 row(0, 3, -1): BAD ahead of SIZE", x -> x.row(0, 3, -1), BAD);
        fullDue("2 row(0, 0, -1) of a ROW that is there", x -> x.row(0, 0, -1), SIZE, 4);
        fullDue("2 row(5, 2, least) of a missing ROW", x -> x.row(5, 2, LEAST), SIZE, 4);

        fullDue("3 set(-1, 0, 1)", x -> x.set(-1, 0, 1), BAD);
        fullDue("3 set(8, 0, 1)", x -> x.set(8, 0, 1), BAD);
        fullDue("3 set(5, 0, 1)", x -> x.set(5, 0, 1), NULL, 1);
        fullDue("3 set(5, -1, 1): NULL ahead of PLACE", x -> x.set(5, -1, 1), NULL, 1);
        fullDue("3 set(0, -1, 1)", x -> x.set(0, -1, 1), PLACE, 2);
        fullDue("3 set(0, 4, 1)", x -> x.set(0, 4, 1), PLACE, 2);
        fullDue("3 set(2, 40, 1) of a full ROW", x -> x.set(2, 40, 1), PLACE, 2);
        fullDue("3 set(3, 0, 1) of an empty ROW", x -> x.set(3, 0, 1), PLACE, 2);
        fullDue("3 set(0, least, 1)", x -> x.set(0, LEAST, 1), PLACE, 2);
        fullDue("3 set(0, most, 1)", x -> x.set(0, MOST, 1), PLACE, 2);

        fullDue("4 copy(-1, ..)", x -> x.copy(-1, 0, 0, 0, 1), BAD);
        fullDue("4 copy(8, ..)", x -> x.copy(8, 0, 0, 0, 1), BAD);
        fullDue("4 copy(.., -1, ..)", x -> x.copy(0, 0, -1, 0, 1), BAD);
        fullDue("4 copy(.., 8, ..)", x -> x.copy(0, 0, 8, 0, 1), BAD);
        fullDue("4 copy(5, .., 8, ..): BAD ahead of NULL", x -> x.copy(5, 0, 8, 0, 1), BAD);
        fullDue("4 a missing", x -> x.copy(5, 0, 0, 0, 1), NULL, 1);
        fullDue("4 b missing", x -> x.copy(0, 0, 5, 0, 1), NULL, 1);
        fullDue("4 NULL ahead of PLACE", x -> x.copy(0, -1, 5, -1, -1), NULL, 1);
        fullDue("4 bytes to ints", x -> x.copy(0, 0, 2, 0, 1), STORE, 5);
        fullDue("4 ints to shorts", x -> x.copy(2, 0, 1, 0, 1), STORE, 5);
        fullDue("4 STORE, though n is 0", x -> x.copy(0, 0, 1, 0, 0), STORE, 5);
        fullDue("4 STORE ahead of PLACE", x -> x.copy(0, -1, 1, 9, -1), STORE, 5);
        fullDue("4 i -1", x -> x.copy(0, -1, 4, 0, 1), PLACE, 2);
        fullDue("4 j -1", x -> x.copy(0, 1, 4, -1, 1), PLACE, 2);
        fullDue("4 n -1", x -> x.copy(0, 1, 4, 0, -1), PLACE, 2);
        fullDue("4 beyond a", x -> x.copy(4, 1, 0, 0, 2), PLACE, 2);
        fullDue("4 beyond b", x -> x.copy(0, 0, 4, 1, 2), PLACE, 2);
        fullDue("4 i beyond, n 0", x -> x.copy(0, 5, 4, 0, 0), PLACE, 2);
        fullDue("4 j beyond, n 0", x -> x.copy(0, 0, 4, 3, 0), PLACE, 2);
        fullDue("4 i and n wrap around", x -> x.copy(0, MOST, 4, 0, MOST), PLACE, 2);
        fullDue("4 j and n wrap around", x -> x.copy(0, 1, 4, MOST, 1), PLACE, 2);
        fullDue("4 n least", x -> x.copy(0, 1, 4, 1, LEAST), PLACE, 2);
        fullDue("4 n 41 of a full ROW to itself", x -> x.copy(2, 0, 2, 0, 41), PLACE, 2);

        fullDue("5 drop(-1)", x -> x.drop(-1), BAD);
        fullDue("5 drop(8)", x -> x.drop(8), BAD);
        fullDue("5 drop(5)", x -> x.drop(5), NULL, 1);
    }

    private static void toldAndDone() {
        fullDue("6 feed(-1)", x -> x.feed(-1), BAD);
        fullDue("6 feed(256)", x -> x.feed(256), BAD);
        fullDue("8 fault()", ShaftDiscs::fault, 1);

        int[] least = {1, 0, 0};
        int[] most = {5, 40, 9};
        for (int i = J; i <= N; i++) {
            int which = i;
            fullDue("10 too little of " + which, x -> x.change(0, which, least[which] - 1), BAD);
            fullDue("10 too much of " + which, x -> x.change(0, which, most[which] + 1), BAD);
            fullDue("10 no disc -1, " + which, x -> x.change(-1, which, 1), BAD);
            fullDue("10 no disc 6, " + which, x -> x.change(6, which, 1), BAD);
        }
        fullDue("10 which -1", x -> x.change(0, -1, 1), BAD);
        fullDue("10 which 3", x -> x.change(0, 3, 1), BAD);

        fullDue("11 disc -1", x -> x.become(-1, 1), BAD);
        fullDue("11 disc 6", x -> x.become(6, 1), BAD);
        fullDue("11 kind 0", x -> x.become(0, 0), BAD);
        fullDue("11 kind 6", x -> x.become(0, 6), BAD);
        fullDue("11 it is that: a plain one", x -> x.become(0, PLAIN), STATE);
        fullDue("11 it is that: the last one", x -> x.become(5, WHEEL), STATE);

        fullDue("12 mark(-1)", x -> x.mark(-1), BAD);
        fullDue("12 mark(201)", x -> x.mark(201), BAD);

        fullDue("13 a -1", x -> x.swap(-1, 0), BAD);
        fullDue("13 a 6", x -> x.swap(6, 0), BAD);
        fullDue("13 b -1", x -> x.swap(0, -1), BAD);
        fullDue("13 b 6", x -> x.swap(0, 6), BAD);
        fullDue("13 BAD ahead of STATE", x -> x.swap(6, 6), BAD);
        fullDue("13 BAD ahead of STATE", x -> x.swap(-1, -1), BAD);
        fullDue("13 it is one: the first", x -> x.swap(0, 0), STATE);
        fullDue("13 it is one: the last", x -> x.swap(5, 5), STATE);

        fullDue("14 disc -1", x -> x.disc(-1, 0), BAD);
        fullDue("14 disc 6", x -> x.disc(6, 0), BAD);
        fullDue("14 what -1", x -> x.disc(0, -1), BAD);
        fullDue("14 what 7", x -> x.disc(0, 7), BAD);
        fullDue("14 WEIGHT", x -> x.disc(0, 4), 2);
    }

    private static void nothingToUndo() {
        Twins.leaves(C, "9 none can be undone", RefusedTest::untouched, ShaftDiscs::undo, STATE, 0);
        Twins.leaves(C, "28 none was kept", RefusedTest::untouched, x -> x.restore(1), STATE, 0);
        Twins.Scene zero = t -> {
            untouched(t);
            t.both(x -> x.image(0));
            t.both(x -> x.mark(3));
            t.both(ShaftDiscs::undo);
        };
        Twins.leaves(C, "9 the only one is undone", zero, ShaftDiscs::undo, STATE, 0);
        Twins.leaves(C, "28 only the other one was kept", zero, x -> x.restore(1), STATE, 0);
        Twins.Scene tapeFull = t -> {
            t.read(EACH);
            t.feed("m20,00;p01,00,00;p01,00,00;p01,00,00;p01,00,00;p01,00,00;p01,00,00;ppppppppppppp");
        };
        Twins.leaves(C, "6 the tape is full", tapeFull, x -> x.feed('p'), FULL, 0);
        Twins.leaves(C, "6 BAD ahead of FULL", tapeFull, x -> x.feed(-1), BAD, 0);
        Twins.leaves(C, "6 BAD ahead of FULL", tapeFull, x -> x.feed(256), BAD, 0);
    }

    private static void speeds() {
        fullDue("15 i -1", x -> x.determinant(-1, 0), BAD);
        fullDue("15 i 7", x -> x.determinant(7, 0), BAD);
        fullDue("15 m -1", x -> x.determinant(0, -1), BAD);
        fullDue("15 m 201", x -> x.determinant(0, 201), BAD);
        fullDue("16 m -1", x -> x.below(-1), BAD);
        fullDue("16 m 201", x -> x.below(201), BAD);
        fullDue("17 k -1", x -> x.box(-1), BAD);
        fullDue("17 k 6", x -> x.box(6), BAD);
        fullDue("18 what -1", x -> x.widest(-1), BAD);
        fullDue("18 what 2", x -> x.widest(2), BAD);
        fullDue("19 m -1", x -> x.clear(-1, 0), BAD);
        fullDue("19 m 201", x -> x.clear(201, 0), BAD);
        fullDue("19 t -1", x -> x.clear(0, -1), BAD);
        fullDue("19 t 10", x -> x.clear(0, 10), BAD);
        fullDue("20 disc -1", x -> x.stiffer(-1, 0), BAD);
        fullDue("20 the last disc", x -> x.stiffer(5, 0), BAD);
        fullDue("20 disc 6", x -> x.stiffer(6, 0), BAD);
        fullDue("20 v -1", x -> x.stiffer(0, -1), BAD);
        fullDue("20 v 7", x -> x.stiffer(0, 7), BAD);
        fullDue("21 v -1", x -> x.sets(-1, 0), BAD);
        fullDue("21 v 100", x -> x.sets(100, 0), BAD);
        fullDue("21 what -1", x -> x.sets(0, -1), BAD);
        fullDue("21 what 3", x -> x.sets(0, 3), BAD);
        fullDue("22 disc -1", x -> x.share(-1, 0), BAD);
        fullDue("22 disc 6", x -> x.share(6, 0), BAD);
        fullDue("22 n -1", x -> x.share(0, -1), BAD);
        fullDue("22 n 1000", x -> x.share(0, 1000), BAD);
        fullDue("23 n -1", x -> x.byTurns(-1), BAD);
        fullDue("23 n 4", x -> x.byTurns(4), BAD);
        fullDue("24 disc -1", x -> x.who(-1, 0, 0, 0, 1), BAD);
        fullDue("24 disc 6", x -> x.who(6, 0, 0, 0, 1), BAD);
        fullDue("24 which -1", x -> x.who(0, -1, 0, 0, 1), BAD);
        fullDue("24 which 4", x -> x.who(0, 4, 0, 0, 1), BAD);
        fullDue("24 row -1", x -> x.who(0, 0, -1, 0, 1), BAD);
        fullDue("24 row 8", x -> x.who(0, 0, 8, 0, 1), BAD);
        fullDue("24 n 0", x -> x.who(0, 0, 0, 0, 0), BAD);
        fullDue("24 n -1", x -> x.who(0, 0, 0, 0, -1), BAD);
        fullDue("24 n 7", x -> x.who(0, 0, 2, 0, 7), BAD);
        fullDue("24 BAD ahead of NULL", x -> x.who(0, 0, 5, 0, 7), BAD);
        fullDue("24 BAD ahead of PLACE", x -> x.who(0, 0, 0, -1, 7), BAD);
        fullDue("24 NULL", x -> x.who(0, 0, 5, 0, 1), NULL, 1);
        fullDue("24 NULL ahead of PLACE", x -> x.who(0, 3, 5, -1, 6), NULL, 1);
        fullDue("24 i -1", x -> x.who(0, 0, 0, -1, 1), PLACE, 2);
        fullDue("24 i and n beyond the end", x -> x.who(0, 1, 0, 3, 2), PLACE, 2);
        fullDue("24 i at the end", x -> x.who(0, 2, 0, 4, 1), PLACE, 2);
        fullDue("24 of an empty row", x -> x.who(0, 3, 3, 0, 1), PLACE, 2);
        fullDue("24 i and n wrap around", x -> x.who(0, 0, 2, MOST, 6), PLACE, 2);
        fullDue("25 v -1", x -> x.broken(-1, 0, 0), BAD);
        fullDue("25 v 7", x -> x.broken(7, 0, 0), BAD);
        fullDue("25 p -1", x -> x.broken(0, -1, 0), BAD);
        fullDue("25 p 11", x -> x.broken(0, 11, 0), BAD);
        fullDue("25 what -1", x -> x.broken(0, 0, -1), BAD);
        fullDue("25 what 2", x -> x.broken(0, 0, 2), BAD);
        fullDue("26 n -1", x -> x.drawn(-1, 1, 0), BAD);
        fullDue("26 n 41", x -> x.drawn(41, 1, 0), BAD);
        fullDue("26 seed 0", x -> x.drawn(1, 0, 0), BAD);
        fullDue("26 seed -1", x -> x.drawn(1, -1, 0), BAD);
        fullDue("26 seed 1000000", x -> x.drawn(1, 1000000, 0), BAD);
        fullDue("26 what -1", x -> x.drawn(1, 1, -1), BAD);
        fullDue("26 what 2", x -> x.drawn(1, 1, 2), BAD);
        fullDue("27 k -1", x -> x.image(-1), BAD);
        fullDue("27 k 2", x -> x.image(2), BAD);
        fullDue("28 k -1", x -> x.restore(-1), BAD);
        fullDue("28 k 2", x -> x.restore(2), BAD);
    }

    /** "FORETOLD (nothing changes)": calls that are taken, and whether they set status() to 0. */
    private static void foretold() {
        fullDue("15 determinant", x -> x.determinant(0, 200), 1, 0);
        fullDue("16 below", x -> x.below(0), 0, 0);
        fullDue("16 below", x -> x.below(200), 6, 0);
        fullDue("17 box", x -> x.box(0), 0, 0);
        fullDue("18 widest", x -> x.widest(0), 5, 0);
        fullDue("19 clear", x -> x.clear(200, 9), 200, 0);
        fullDue("20 stiffer", x -> x.stiffer(0, 6), 0, 0);
        fullDue("20 stiffer, NONE", x -> x.stiffer(4, 0), NONE, 0);
        fullDue("21 sets", x -> x.sets(0, 0), 1);
        fullDue("22 share", x -> x.share(0, 0), 0);
        fullDue("23 byTurns", x -> x.byTurns(3), 6);
        fullDue("24 who, kinds (geared: OVER)", x -> x.who(0, 0, 2, 0, 1), 58, 0);
        fullDue("24 who, weights (3 to 5: OVER)", x -> x.who(0, 1, 2, 0, 1), 6, 0);
        fullDue("24 who, how many", x -> x.who(0, 2, 2, 0, 1), 41, 0);
        fullDue("24 who, NONE", x -> x.who(0, 3, 0, 1, 2), NONE, 0);
        fullDue("25 broken", x -> x.broken(6, 5, 0), 1);
        fullDue("25 broken", x -> x.broken(0, 5, 1), 1);
        fullDue("26 drawn", x -> x.drawn(40, 999999, 1), 0);
    }

    private static void asked() {
        fullDue("29 kind -1", x -> x.kind(-1), BAD);
        fullDue("29 kind 6", x -> x.kind(6), BAD);
        fullDue("30 one -1", x -> x.as(-1, 0), BAD);
        fullDue("30 one 6", x -> x.as(6, 0), BAD);
        fullDue("30 kind -1", x -> x.as(0, -1), BAD);
        fullDue("30 kind 6", x -> x.as(0, 6), BAD);
        fullDue("30 no such one", x -> x.as(0, TIED), KIND, 3);
        fullDue("30 it is one", x -> x.as(5, PLAIN), 5, 0);
        fullDue("31 one -1", x -> x.ask(-1, 0), BAD);
        fullDue("31 one 6", x -> x.ask(6, 0), BAD);
        fullDue("31 what -1", x -> x.ask(0, -1), BAD);
        fullDue("31 what 2", x -> x.ask(0, 2), BAD);
        fullDue("32 trace(-1)", x -> x.trace(-1), NONE);
        fullDue("32 trace(6)", x -> x.trace(6), NONE);
        fullDue("32 trace(16)", x -> x.trace(16), NONE);
        fullDue("33 count(-1)", x -> x.count(-1), BAD);
        fullDue("33 count(7)", x -> x.count(7), BAD);
        fullDue("34 status()", ShaftDiscs::status, 5);
    }

    private static void over() {
        heavyDue("15 OVER", x -> x.determinant(6, 200), OVER, 6);
        heavyDue("16 OVER", x -> x.below(200), OVER, 6);
        heavyDue("17 OVER", x -> x.box(0), OVER, 6);
        heavyDue("17 OVER", x -> x.box(5), OVER, 6);
        heavyDue("18 OVER", x -> x.widest(0), OVER, 6);
        heavyDue("18 OVER", x -> x.widest(1), OVER, 6);
        heavyDue("19 OVER", x -> x.clear(0, 0), OVER, 6);
        heavyDue("20 OVER", x -> x.stiffer(0, 6), OVER, 6);
        heavyDue("15 BAD ahead of OVER", x -> x.determinant(7, 200), BAD, STAYS);
        heavyDue("16 BAD ahead of OVER", x -> x.below(201), BAD, STAYS);
        heavyDue("17 BAD ahead of OVER", x -> x.box(6), BAD, STAYS);
        heavyDue("18 BAD ahead of OVER", x -> x.widest(2), BAD, STAYS);
        heavyDue("19 BAD ahead of OVER", x -> x.clear(0, 10), BAD, STAYS);
        heavyDue("20 BAD ahead of OVER", x -> x.stiffer(5, 6), BAD, STAYS);
        heavyDue("15 number 0 is never OVER", x -> x.determinant(0, 200), 1, 0);
        heavyDue("23 OVER is as many as DISCS", x -> x.byTurns(3), 6, STAYS);
        heavyDue("24 where it is OVER, it is not so", x -> x.who(0, 0, 2, 0, 1), 0, 0);
        heavyDue("25 OVER is none", x -> x.broken(6, 1, 0), 0, STAYS);
        heavyDue("26 OVER is none", x -> x.drawn(40, 1, 0), 0, STAYS);
        heavyDue("26 how often OVER", x -> x.drawn(40, 1, 1), 40, STAYS);
    }
}
