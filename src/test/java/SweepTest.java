/**
 * Each call with each argument from ahead of its first limit to behind its last one, on several
 * shafts, against the second writing of the document.
 */
public final class SweepTest implements Answers {
    private static final Checks C = new Checks();
    private static final String[] SHAFTS = {
        "", PAIR, TIES, CHAIN, EACH, HEAVY,
        "m0,0;p1,0,0;p1,0,0;",
        "m0,7;t1,0,7;p1,0,0;t1,3,6;s1,1,3;",
        "m4,9;t1,40,9;t1,40,9;t1,40,9;t1,40,9;t1,40,9;t1,40,9;",
        "m2,3;g4,35,4;g3,34,6;s1,36,9;g4,12,7;t2,8,4;w4,34,5;",
        "m0,5;g5,11,6;g5,20,5;g2,15,5;g4,38,1;w4,29,6;g2,29,8;"};

    private final String text;
    private ShaftDiscs x;
    private Model y;
    private int calls = 512;

    private SweepTest(String text) {
        this.text = text;
    }

    public static void main(String[] args) {
        for (String text : SHAFTS) {
            SweepTest sweep = new SweepTest(text);
            sweep.rows();
            sweep.done();
            sweep.speeds();
            sweep.foretold();
            sweep.who();
            sweep.asked();
        }
        C.end("SweepTest");
    }

    /** A new object and a new model: some calls change them, and 512 calls are all. */
    private void anew() {
        x = new ShaftDiscs();
        y = new Model();
        for (char letter : text.toCharArray()) {
            x.feed(letter);
            y.feed(letter);
        }
        if (!text.isEmpty()) {
            x.shaft();
            y.shaft();
        }
        x.row(3, 1, 2);
        y.row(3, 1, 2);
        calls = text.length() + 2;
    }

    private void room(int more) {
        if (calls + more > 512) {
            anew();
        }
    }

    private void same(String call, long got, long want) {
        calls += 2;
        C.due(call + " of " + text, got, want);
        C.due("status() behind " + call + " of " + text, x.status(), y.status());
    }

    private void rows() {
        for (int row = -1; row <= 8; row++) {
            for (int lane = -1; lane <= 3; lane++) {
                for (int n : new int[] {-2, -1, 0, 1, 39, 40, 41, 42}) {
                    room(10);
                    same("row " + row + " " + lane + " " + n, x.row(row, lane, n), y.row(row, lane, n));
                    same("set " + row + " " + (n - 1), x.set(row, n - 1, 77777), y.set(row, n - 1, 77777));
                    same("set " + row + " " + n, x.set(row, n, -77777), y.set(row, n, -77777));
                    same("drop " + row, x.drop(row), y.drop(row));
                    same("count 0", x.count(0), y.count(0));
                }
            }
        }
        for (int a = 2; a <= 4; a++) {
            for (int i = -1; i <= 3; i++) {
                for (int j = -1; j <= 3; j++) {
                    for (int n = -1; n <= 3; n++) {
                        room(2);
                        same("copy " + a + " " + i + " " + j + " " + n, x.copy(a, i, 3, j, n), y.copy(a, i, 3, j, n));
                    }
                }
            }
        }
    }

    private void done() {
        for (int disc = -1; disc <= 6; disc++) {
            for (int which = -1; which <= 3; which++) {
                for (int v : new int[] {-1, 0, 1, 5, 6, 9, 10, 40, 41}) {
                    room(6);
                    same("change " + disc + " " + which + " " + v, x.change(disc, which, v), y.change(disc, which, v));
                    same("disc", x.disc(disc, which), y.disc(disc, which));
                    same("count 5", x.count(5), y.count(5));
                }
            }
            for (int kind = -1; kind <= 6; kind++) {
                room(4);
                same("become " + disc + " " + kind, x.become(disc, kind), y.become(disc, kind));
                same("undo", x.undo(), y.undo());
            }
            for (int b = -1; b <= 6; b++) {
                room(4);
                same("swap " + disc + " " + b, x.swap(disc, b), y.swap(disc, b));
                same("undo", x.undo(), y.undo());
            }
            for (int what = -1; what <= 7; what++) {
                room(2);
                same("disc " + disc + " " + what, x.disc(disc, what), y.disc(disc, what));
            }
        }
        for (int v = -1; v <= 201; v++) {
            room(4);
            same("mark " + v, x.mark(v), y.mark(v));
            same("undo", x.undo(), y.undo());
        }
        for (int k = -1; k <= 2; k++) {
            room(4);
            same("image " + k, x.image(k), y.image(k));
            same("restore " + k, x.restore(k), y.restore(k));
        }
        anew();
    }

    private void speeds() {
        for (int m = -1; m <= 201; m++) {
            for (int i = -1; i <= 7; i++) {
                room(2);
                same("determinant " + i + " " + m, x.determinant(i, m), y.determinant(i, m));
            }
            room(2);
            same("below " + m, x.below(m), y.below(m));
        }
        for (int k = -1; k <= 6; k++) {
            room(2);
            same("box " + k, x.box(k), y.box(k));
        }
        for (int what = -1; what <= 2; what++) {
            room(2);
            same("widest " + what, x.widest(what), y.widest(what));
        }
        for (int m = -1; m <= 201; m += m < 30 || m > 190 ? 1 : 7) {
            for (int t = -1; t <= 10; t++) {
                room(2);
                same("clear " + m + " " + t, x.clear(m, t), y.clear(m, t));
            }
        }
    }

    private void foretold() {
        for (int disc = -1; disc <= 6; disc++) {
            for (int v = -1; v <= 7; v++) {
                room(2);
                same("stiffer " + disc + " " + v, x.stiffer(disc, v), y.stiffer(disc, v));
            }
            for (int n = -1; n <= 1000; n += n < 20 || n > 985 ? 1 : 13) {
                room(2);
                same("share " + disc + " " + n, x.share(disc, n), y.share(disc, n));
            }
        }
        for (int v = -1; v <= 100; v++) {
            for (int what = -1; what <= 3; what++) {
                room(2);
                same("sets " + v + " " + what, x.sets(v, what), y.sets(v, what));
            }
        }
        for (int n = -1; n <= 4; n++) {
            room(2);
            same("byTurns " + n, x.byTurns(n), y.byTurns(n));
        }
        for (int v = -1; v <= 7; v++) {
            for (int p = -1; p <= 11; p++) {
                for (int what = -1; what <= 2; what++) {
                    room(2);
                    same("broken " + v + " " + p + " " + what, x.broken(v, p, what), y.broken(v, p, what));
                }
            }
        }
        for (int n = -1; n <= 41; n++) {
            for (int seed : new int[] {-1, 0, 1, 2, 77777, 999998, 999999, 1000000}) {
                for (int what = -1; what <= 2; what++) {
                    room(2);
                    same("drawn " + n + " " + seed + " " + what, x.drawn(n, seed, what), y.drawn(n, seed, what));
                }
            }
        }
    }

    /** A row that tells what is so, one that tells what is almost so, and its limits. */
    private void who() {
        anew();
        x.row(0, 2, 6);
        y.row(0, 2, 6);
        for (int k = 0; k < 6; k++) {
            int box = y.box(k);
            x.box(k);
            x.set(0, k, box);
            y.set(0, k, box);
        }
        calls += 13;
        for (int disc = -1; disc <= 6; disc++) {
            for (int which = -1; which <= 4; which++) {
                for (int n = 0; n <= 7; n += n == 1 ? 4 : 1) {
                    if (calls > 490) {
                        who2();
                    }
                    same("who " + disc + " " + which + " " + n,
                            x.who(disc, which, 0, 0, n), y.who(disc, which, 0, 0, n));
                }
            }
        }
        who2();
        for (int row = -1; row <= 8; row++) {
            for (int i = -1; i <= 2; i++) {
                room(2);
                same("who of " + row + " from " + i, x.who(0, 3, row, i, 2), y.who(0, 3, row, i, 2));
            }
        }
    }

    /** Anew, with the row of the boxes, the last of them one too much. */
    private void who2() {
        anew();
        x.row(0, 2, 6);
        y.row(0, 2, 6);
        for (int k = 0; k < 6; k++) {
            int told = y.box(k) + (k == y.count(1) - 1 ? 1 : 0);
            x.box(k);
            x.set(0, k, told);
            y.set(0, k, told);
        }
        calls += 13;
    }

    private void asked() {
        for (int one = -1; one <= 6; one++) {
            room(2);
            same("kind " + one, x.kind(one), y.kind(one));
            for (int kind = -1; kind <= 6; kind++) {
                room(2);
                same("as " + one + " " + kind, x.as(one, kind), y.as(one, kind));
            }
            for (int what = -1; what <= 2; what++) {
                room(60);
                same("ask " + one + " " + what, x.ask(one, what), y.ask(one, what));
                for (int i = -1; i <= 17; i++) {
                    same("trace " + i, x.trace(i), y.trace(i));
                }
            }
        }
        for (int what = -1; what <= 7; what++) {
            room(2);
            same("count " + what, x.count(what), y.count(what));
        }
    }
}
