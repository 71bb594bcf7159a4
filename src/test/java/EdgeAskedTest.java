/** Terms 3 (KINDS), 4 (ASKS, THE TRACE) and promises 29 to 34: kinds, traces, counts, status(). */
public final class EdgeAskedTest implements Answers {
    private static final Checks C = new Checks();

    public static void main(String[] args) {
        kinds();
        takenAs();
        asks();
        traceFromAskToAsk();
        counts();
        countsOfTheFull();
        statusOfEachCall();
        statusIsLeftBy();
        calls512();
        C.end("EdgeAskedTest");
    }

    private static void due(String call, long got, long want) {
        C.due(call, got, want);
    }

    private static void kinds() {
        ShaftDiscs x = Checks.shaftOf(EACH);
        int[] want = {PLAIN, GEARED, WHEEL, TIED, SLIPPING, PLAIN};
        for (int one = 0; one < 6; one++) {
            due("29 of " + one, x.kind(one), want[one]);
        }
        ShaftDiscs none = new ShaftDiscs();
        for (int one : new int[] {-1, 6, LEAST, MOST}) {
            due("29 no DISC", x.kind(one), BAD);
            due("30 no DISC", x.as(one, 0), BAD);
            due("31 no DISC", x.ask(one, 0), BAD);
        }
        for (int one : new int[] {-1, 0, 1, 6}) {
            due("29 no SHAFT", none.kind(one), BAD);
            due("30 no SHAFT", none.as(one, 0), BAD);
            due("31 no SHAFT", none.ask(one, 0), BAD);
        }
        ShaftDiscs two = Checks.shaftOf(PAIR);
        due("29 the last of two", two.kind(1), PLAIN);
        due("29 behind it", two.kind(2), BAD);
        two.become(1, SLIPPING);
        due("29 as it is told now", two.kind(1), SLIPPING);
        two.undo();
        due("29 as it is told now", two.kind(1), PLAIN);
        due("34 nothing is told of it", two.status(), 0);
    }

    private static void takenAs() {
        boolean[][] is = new boolean[6][6];
        for (int kind = PLAIN; kind <= SLIPPING; kind++) {
            is[kind][0] = true;
            is[kind][kind] = true;
        }
        is[GEARED][PLAIN] = true;
        is[WHEEL][PLAIN] = true;
        is[SLIPPING][TIED] = true;
        for (int one = 0; one < 2; one++) {
            ShaftDiscs x = Checks.shaftOf(PAIR);
            for (int kind = PLAIN; kind <= SLIPPING; kind++) {
                if (x.kind(one) != kind) {
                    x.become(one, kind);
                }
                for (int as = 0; as <= 5; as++) {
                    due("30 kind " + kind + " as " + as, x.as(one, as), is[kind][as] ? one : KIND);
                    due("34 kind " + kind + " as " + as, x.status(), is[kind][as] ? 0 : 3);
                    due("30 it stays what it is", x.kind(one), kind);
                }
            }
            for (int as : new int[] {-1, 6, LEAST, MOST}) {
                due("30 no KIND", x.as(one, as), BAD);
            }
            due("34 BAD is not told", x.status(), 0);
        }
    }

    private static void askDue(ShaftDiscs x, int one, int what, int want, int... trace) {
        due("31 ask " + one + ", " + what, x.ask(one, what), want);
        for (int i = 0; i < trace.length; i++) {
            due("32 number " + i + " of ask " + one + ", " + what, x.trace(i), trace[i]);
        }
        for (int i = trace.length; i <= 17; i++) {
            due("32 behind the last", x.trace(i), NONE);
        }
    }

    /** Each kind at each end of J and K, at the first and at the last place. */
    private static void asks() {
        for (int end = 0; end <= 1; end++) {
            for (int one = 0; one <= 5; one += 5) {
                int j = end == 0 ? 1 : 5;
                int k = end == 0 ? 0 : 40;
                ShaftDiscs x = Checks.shaftOf(EACH);
                x.change(one, J, j);
                x.change(one, K, k);
                askDue(x, one, 0, k + one + j, 11, 10, 21, 20);
                askDue(x, one, 1, one + j, 21, 20);
                x.become(one, GEARED);
                askDue(x, one, 0, -(k + 2 * (one + j)), 12, 11, 10, 24, 21, 20);
                askDue(x, one, 1, 2 * (one + j), 24, 21, 20);
                x.become(one, WHEEL);
                askDue(x, one, 0, k + one + j - 1000, 11, 10, 22, 21, 20);
                askDue(x, one, 1, one + j - 1000, 22, 21, 20);
                x.become(one, TIED);
                askDue(x, one, 0, k - 100, 13, 10);
                askDue(x, one, 1, one - (k - 100), 23, 20, 13, 10);
                x.become(one, SLIPPING);
                askDue(x, one, 0, 2 * (k - 100), 14, 13, 10);
                askDue(x, one, 1, one - 2 * (k - 100), 23, 20, 14, 13, 10);
            }
        }
    }

    private static void traceFromAskToAsk() {
        ShaftDiscs x = Checks.shaftOf(EACH);
        due("32 no ask yet", x.trace(0), NONE);
        x.ask(1, 0);
        for (int what : new int[] {-1, 2, LEAST, MOST}) {
            due("31 no ASK", x.ask(1, what), BAD);
        }
        due("31 no DISC", x.ask(6, 0), BAD);
        due("31 what is refused leaves THE TRACE", x.trace(0), 12);
        due("31 all of it", x.trace(5), 20);
        due("32 behind it", x.trace(6), NONE);
        for (int i : new int[] {-1, 16, 17, LEAST, MOST}) {
            due("32 no number", x.trace(i), NONE);
        }
        x.mark(5);
        x.swap(1, 2);
        x.restore(0);
        Checks.read(x, PAIR);
        due("32 another shaft leaves THE TRACE", x.trace(0), 12);
        x.ask(0, 1);
        due("31 THE TRACE is empty ahead of it", x.trace(0), 21);
        due("31 the longer one is gone", x.trace(2), NONE);
        due("34 nothing is told of it", x.status(), 0);
    }

    private static void counts() {
        ShaftDiscs x = new ShaftDiscs();
        for (int what : new int[] {-1, 7, LEAST, MOST}) {
            due("33 no such one", x.count(what), BAD);
        }
        x.row(7, 0, 0);
        due("33 an empty ROW is a ROW", x.count(0), 1);
        x.drop(7);
        due("33 a missing one is none", x.count(0), 0);
        Checks.read(x, "m0,0;p1,0,0;p1,0,0;");
        int[] least = {0, 2, 0, 2, 0, 0, 0};
        for (int what = 0; what <= 6; what++) {
            due("33 the least, " + what, x.count(what), least[what]);
        }
        x.change(0, J, 4);
        x.change(1, K, 6);
        x.mark(17);
        x.feed('m');
        int[] then = {0, 2, 17, 5, 6, 3, 1};
        for (int what = 0; what <= 6; what++) {
            due("33 then, " + what, x.count(what), then[what]);
        }
        x.undo();
        x.undo();
        x.shaft();
        int[] undone = {0, 2, 0, 5, 0, 1, 0};
        for (int what = 0; what <= 6; what++) {
            due("33 undone, " + what, x.count(what), undone[what]);
        }
    }

    private static void countsOfTheFull() {
        ShaftDiscs x = Checks.shaftOf("m20,0;w5,40,9;w5,40,9;w5,40,9;w5,40,9;w5,40,9;w5,40,9;");
        for (int row = 0; row <= 7; row++) {
            x.row(row, 0, 40);
        }
        for (int i = 0; i < 30; i++) {
            x.mark(200);
            x.mark(100);
        }
        x.mark(200);
        for (int i = 0; i < 90; i++) {
            x.feed('p');
        }
        int[] most = {8, 6, 200, 30, 240, 24, 80};
        for (int what = 0; what <= 6; what++) {
            due("33 the most, " + what, x.count(what), most[what]);
        }
        due("33 behind the last", x.count(7), BAD);
    }

    /** "Of the latest call with a ROW, as(), or that may answer OVER": each of these sets it. */
    private static void statusOfEachCall() {
        for (int of = 0; of <= 14; of++) {
            ShaftDiscs x = Checks.shaftOf(EACH);
            x.row(0, 0, 1);
            x.set(0, 5, 0);
            due("34 a FINDING ahead", x.status(), 2);
            long got;
            switch (of) {
                case 0: got = x.row(1, 0, 1); break;
                case 1: got = x.set(0, 0, 1); break;
                case 2: got = x.copy(0, 0, 0, 0, 1); break;
                case 3: got = x.drop(0); break;
                case 4: got = x.as(0, 0); break;
                case 5: got = x.determinant(0, 0); break;
                case 6: got = x.below(0); break;
                case 7: got = x.box(0); break;
                case 8: got = x.widest(0); break;
                case 9: got = x.clear(0, 0); break;
                case 10: got = x.stiffer(0, 6); break;
                case 11: got = x.widest(1); break;
                case 12: got = x.who(0, 2, 0, 0, 1); break;
                case 13: got = x.who(0, 1, 0, 0, 1); break;
                default: got = x.who(0, 0, 0, 0, 1); break;
            }
            C.holds("34 taken: " + of, got >= 0);
            due("34 it had none: " + of, x.status(), 0);
            due("34 status() itself leaves it", x.status(), 0);
        }
        ShaftDiscs x = Checks.shaftOf(PAIR);
        x.set(0, 0, 0);
        x.stiffer(0, 0);
        due("34 NONE is no FINDING", x.status(), 0);
        x.set(0, 0, 0);
        due("34 NULL", x.status(), 1);
        x.row(0, 0, 1);
        x.set(0, 1, 0);
        due("34 PLACE", x.status(), 2);
        x.as(0, GEARED);
        due("34 KIND", x.status(), 3);
        x.row(0, 0, -1);
        due("34 SIZE", x.status(), 4);
        x.row(1, 1, 1);
        x.copy(0, 0, 1, 0, 1);
        due("34 STORE", x.status(), 5);
        Checks.read(x, HEAVY);
        due("34 a shaft leaves it", x.status(), 5);
        x.below(0);
        due("34 OVER", x.status(), 6);
    }

    /** Calls that are not of these, and calls that are refused, leave it as it was. */
    private static void statusIsLeftBy() {
        ShaftDiscs x = Checks.shaftOf(EACH);
        x.image(0);
        x.as(0, GEARED);
        long[] taken = {x.feed('m'), x.count(6), x.fault(), x.change(0, J, 3), x.become(0, WHEEL), x.mark(9),
            x.swap(0, 1), x.undo(), x.disc(0, 0), x.sets(0, 0), x.share(0, 9), x.byTurns(1), x.broken(0, 0, 0),
            x.drawn(1, 1, 0), x.image(1), x.restore(0), x.kind(0), x.trace(0) == NONE ? 0 : 1};
        for (long answer : taken) {
            C.holds("34 taken", answer >= 0);
        }
        C.holds("34 a FAULT", x.shaft() < FAULT);
        x.ask(1, 1);
        due("34 KIND yet", x.status(), 3);
        long[] refused = {x.row(8, 0, 1), x.set(8, 0, 1), x.copy(8, 0, 0, 0, 0), x.drop(8), x.as(0, 6),
            x.determinant(7, 0), x.below(201), x.box(6), x.widest(2), x.clear(0, 10), x.stiffer(5, 0),
            x.who(0, 0, 8, 0, 1), x.become(6, 1), x.mark(201)};
        for (long answer : refused) {
            due("34 refused", answer, BAD);
        }
        due("34 KIND yet", x.status(), 3);
        due("34 STATE", x.undo(), STATE);
        for (int i = 0; i < 80; i++) {
            x.feed('a');
        }
        due("34 FULL", x.feed('a'), FULL);
        due("34 KIND yet", x.status(), 3);
        ShaftDiscs none = new ShaftDiscs();
        none.drop(0);
        long[] state = {none.determinant(0, 0), none.below(0), none.widest(0), none.clear(0, 0), none.mark(0),
            none.image(0), none.restore(0), none.sets(0, 0), none.byTurns(0), none.broken(0, 0, 0), none.drawn(0, 1, 0)};
        for (long answer : state) {
            due("34 STATE", answer, STATE);
        }
        due("34 NULL yet", none.status(), 1);
    }

    /** "At most 512 calls": the last of them is answered as the first. */
    private static void calls512() {
        ShaftDiscs x = new ShaftDiscs();
        int calls = 0;
        for (char letter : EACH.toCharArray()) {
            x.feed(letter);
            calls++;
        }
        due("7 shaft", x.shaft(), 6);
        x.row(0, 2, 40);
        calls += 2;
        while (calls < 508) {
            due("24 the dearest", x.who(calls % 6, 2, 0, 0, 6), 0);
            calls++;
        }
        due("call 509", x.mark(0), 15);
        due("call 510", x.undo(), 0);
        due("call 511", x.count(2), 15);
        due("call 512", x.below(200), 6);
    }
}
