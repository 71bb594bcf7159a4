import java.util.Random;

/** Random runs of calls on an object and on the model: every answer must be the same. */
public final class ModelTest {
    private static final int RUNS = 300, CALLS = 430;
    private static final int[] WILD =
            {-1, 0, 1, 2, 6, 7, 8, 10, 40, 41, 99, 200, 201, 255, 256, Integer.MAX_VALUE, Integer.MIN_VALUE};

    private final Checks checks;
    private final Random random;
    private final String run;
    private final ShaftDiscs x = new ShaftDiscs();
    private final Model y = new Model();
    private int calls = 0;
    /** How heavy the shafts are: only heavy ones are OVER. */
    private final int weight;

    private ModelTest(Checks checks, int seed) {
        this.checks = checks;
        this.random = new Random(seed);
        this.run = "run " + seed;
        this.weight = seed % 4;
    }

    public static void main(String[] args) {
        Checks checks = new Checks();
        int runs = args.length > 0 ? Integer.parseInt(args[0]) : RUNS;
        int first = args.length > 1 ? Integer.parseInt(args[1]) : 0;
        for (int seed = first; seed < first + runs && !checks.anyWrong(); seed++) {
            new ModelTest(checks, seed).calls();
        }
        checks.end("ModelTest");
    }

    private void calls() {
        // a text is some 70 calls, and behind the 512th nothing is promised
        while (calls < CALLS && !checks.anyWrong()) {
            int pick = random.nextInt(100);
            if (calls == 0 && random.nextInt(10) > 0 || pick < 2) {
                text();
            } else if (pick < 22) {
                rows();
            } else if (pick < 45) {
                done();
            } else if (pick < 75) {
                speeds();
            } else {
                asked();
            }
            same("status()", x.status(), y.status());
        }
    }

    private void same(String call, long got, long want) {
        calls++;
        checks.due(run + ", call " + calls + ": " + call, got, want);
    }

    private int up(int least, int most) {
        if (random.nextInt(40) == 0) {
            return WILD[random.nextInt(WILD.length)];
        }
        if (random.nextInt(30) == 0) {
            return random.nextBoolean() ? least - 1 : most + 1;
        }
        return least + random.nextInt(most - least + 1);
    }

    private int disc() {
        return up(0, Math.max(1, y.count(1)) - 1);
    }

    private int fig(int least, int most) {
        return least + random.nextInt(most - least + 1);
    }

    private void text() {
        StringBuilder text = new StringBuilder();
        text.append('m').append(fig(0, 19)).append(',').append(fig(0, 9)).append(';');
        int discs = random.nextInt(20) == 0 ? fig(0, 8) : fig(2, 6);
        for (int i = 0; i < discs; i++) {
            String sorts = weight == 3 ? "gggwpts" : "pgwts";
            text.append(sorts.charAt(random.nextInt(sorts.length())));
            text.append(fig(1, weight == 0 ? 2 : 5)).append(',');
            text.append(random.nextInt(6) == 0 ? 0 : fig(0, 40)).append(',');
            text.append(fig(0, 9)).append(';');
        }
        if (random.nextInt(4) == 0) {
            spoil(text);
        }
        for (int i = 0; i < text.length(); i++) {
            int letter = text.charAt(i);
            same("feed(" + letter + ")", x.feed(letter), y.feed(letter));
        }
        same("shaft() of " + text, x.shaft(), y.shaft());
        same("fault()", x.fault(), y.fault());
    }

    private void spoil(StringBuilder text) {
        int at = random.nextInt(text.length());
        String signs = "mpgwtsx,;0123456789 -";
        char sign = signs.charAt(random.nextInt(signs.length()));
        switch (random.nextInt(4)) {
            case 0: text.setCharAt(at, sign); break;
            case 1: text.insert(at, sign); break;
            case 2: text.deleteCharAt(at); break;
            default: text.setLength(at); break;
        }
    }

    private void rows() {
        int a = up(0, 2);
        int b = up(0, 2);
        int i = up(0, 6);
        int j = up(0, 6);
        int n = up(0, 6);
        int v = random.nextInt(5) == 0 ? random.nextInt() : up(0, 200);
        switch (random.nextInt(7)) {
            case 0: {
                int lane = up(0, 2);
                int size = up(0, 12);
                same("row " + a + " " + lane + " " + size, x.row(a, lane, size), y.row(a, lane, size));
                break;
            }
            case 1:
                same("copy " + a + " " + i + " " + b + " " + j + " " + n, x.copy(a, i, b, j, n), y.copy(a, i, b, j, n));
                break;
            case 2:
                if (random.nextInt(3) == 0) {
                    same("drop " + a, x.drop(a), y.drop(a));
                }
                break;
            case 3:
                // a row that tells what is so, for who() to find something
                for (int k = 0; k < y.count(1); k++) {
                    int box = y.box(k);
                    same("box " + k, x.box(k), box);
                    same("set " + a + " " + k + " " + box, x.set(a, k, box), y.set(a, k, box));
                }
                break;
            default:
                same("set " + a + " " + i + " " + v, x.set(a, i, v), y.set(a, i, v));
                break;
        }
    }

    private void done() {
        int d = disc();
        switch (random.nextInt(7)) {
            case 0: case 1: {
                int which = up(0, 2);
                int v = which == 1 ? up(0, 40) : which == 0 ? up(1, 5) : up(0, 9);
                same("change " + d + " " + which + " " + v, x.change(d, which, v), y.change(d, which, v));
                break;
            }
            case 2: {
                int kind = up(1, 5);
                same("become " + d + " " + kind, x.become(d, kind), y.become(d, kind));
                break;
            }
            case 3: {
                int v = up(0, weight == 3 ? 20 : 200);
                same("mark " + v, x.mark(v), y.mark(v));
                break;
            }
            case 4: {
                int b = disc();
                same("swap " + d + " " + b, x.swap(d, b), y.swap(d, b));
                break;
            }
            case 5: {
                same("undo", x.undo(), y.undo());
                break;
            }
            default: {
                int k = up(0, 1);
                if (random.nextInt(3) > 0) {
                    same("image " + k, x.image(k), y.image(k));
                } else if (random.nextInt(3) == 0) {
                    same("restore " + k, x.restore(k), y.restore(k));
                }
                break;
            }
        }
    }

    private void speeds() {
        int d = disc();
        int m = up(0, weight == 3 ? 30 : 200);
        int what = up(0, 1);
        int v = up(0, 6);
        switch (random.nextInt(13)) {
            case 0:
                same("determinant " + v + " " + m, x.determinant(v, m), y.determinant(v, m));
                break;
            case 1:
                same("below " + m, x.below(m), y.below(m));
                break;
            case 2:
                same("box " + d, x.box(d), y.box(d));
                break;
            case 3:
                same("widest " + what, x.widest(what), y.widest(what));
                break;
            case 4: {
                int t = up(0, 9);
                same("clear " + m + " " + t, x.clear(m, t), y.clear(m, t));
                break;
            }
            case 5: case 6:
                same("stiffer " + d + " " + v, x.stiffer(d, v), y.stiffer(d, v));
                break;
            case 7: {
                int sum = up(0, 30);
                int which = up(0, 2);
                same("sets " + sum + " " + which, x.sets(sum, which), y.sets(sum, which));
                break;
            }
            case 8: {
                int n = up(0, 999);
                same("share " + d + " " + n, x.share(d, n), y.share(d, n));
                break;
            }
            case 9: {
                int n = up(0, random.nextInt(4) == 0 ? 3 : 2);
                same("byTurns " + n, x.byTurns(n), y.byTurns(n));
                break;
            }
            case 10: {
                int n = up(0, 40);
                int seed = random.nextInt(30) == 0 ? WILD[random.nextInt(WILD.length)] : fig(1, 999999);
                same("drawn " + n + " " + seed + " " + what, x.drawn(n, seed, what), y.drawn(n, seed, what));
                break;
            }
            case 11: {
                int p = up(0, 10);
                same("broken " + v + " " + p + " " + what, x.broken(v, p, what), y.broken(v, p, what));
                break;
            }
            default:
                whoOf(d);
                break;
        }
    }

    private void whoOf(int d) {
        int which = up(0, 3);
        int row = up(0, 2);
        int i = random.nextInt(3) > 0 ? 0 : up(0, 6);
        int n = up(1, Math.max(1, y.count(1)));
        same("who " + d + " " + which + " " + row + " " + i + " " + n,
                x.who(d, which, row, i, n), y.who(d, which, row, i, n));
    }

    private void asked() {
        int d = disc();
        int kind = up(0, 5);
        int what = up(0, 1);
        int i = up(0, 7);
        switch (random.nextInt(6)) {
            case 0:
                same("kind " + d, x.kind(d), y.kind(d));
                break;
            case 1:
                same("as " + d + " " + kind, x.as(d, kind), y.as(d, kind));
                break;
            case 2:
                same("ask " + d + " " + what, x.ask(d, what), y.ask(d, what));
                break;
            case 3:
                same("trace " + i, x.trace(i), y.trace(i));
                break;
            case 4:
                same("count " + i, x.count(i), y.count(i));
                break;
            default:
                same("disc " + d + " " + i, x.disc(d, i), y.disc(d, i));
                break;
        }
    }
}
