/** Terms 1 (TEXTS, FAULTS) and promises 6 to 8: the tape, the tokens and the limits of numbers. */
public final class EdgeTextTest implements Answers {
    private static final Checks C = new Checks();
    private static final String SIX = "p1,0,0;g1,0,0;w1,0,0;t1,0,0;s1,0,0;p1,0,0;";
    /** As long as a text can be that has no fault: 67 bytes. */
    private static final String LONGEST =
            "m20,00;p05,40,09;g05,40,09;w05,40,09;t05,40,09;s05,40,09;p05,40,09;";

    public static void main(String[] args) {
        bytes();
        tapeIsFull();
        tens();
        ones();
        numbersOfDiscs();
        howManyDiscs();
        letters();
        runsOfFigures();
        ends();
        firstTokenLeastNumber();
        faultLeavesAllButTheTape();
        latestFault();
        everyByteEverywhere();
        inPlaceOfTheOneBefore();
        C.end("EdgeTextTest");
    }

    private static void due(String call, long got, long want) {
        C.due(call, got, want);
    }

    private static void readsDue(String text, int discs) {
        ShaftDiscs x = new ShaftDiscs();
        due("7 " + text, Checks.read(x, text), discs);
        due("7 discs of " + text, x.count(1), discs);
        due("8 no fault in " + text, x.fault(), 0);
        due("7 empty behind " + text, x.count(6), 0);
    }

    private static void faultDue(String text, int place, int number) {
        ShaftDiscs x = new ShaftDiscs();
        due("7 " + text, Checks.read(x, text), FAULT - place);
        due("8 of " + text, x.fault(), number);
        due("7 no shaft by " + text, x.count(1), 0);
        due("7 no mark by " + text, x.count(2), 0);
        due("7 empty behind " + text, x.count(6), 0);
        due("7 no finding by " + text, x.status(), 0);
    }

    private static void bytes() {
        ShaftDiscs x = new ShaftDiscs();
        due("6 the least", x.feed(0), 1);
        due("6 the most", x.feed(255), 2);
        for (int no : new int[] {-1, 256, LEAST, MOST, 65536 + 'm'}) {
            due("6 no byte " + no, x.feed(no), BAD);
            due("6 it does not come", x.count(6), 2);
        }
        due("7 byte 0 is no token", x.shaft(), FAULT);
        due("6 from the first on again", x.feed('m'), 1);
        for (int letter = 0; letter <= 255; letter++) {
            ShaftDiscs y = new ShaftDiscs();
            y.feed('m');
            due("6 each byte", y.feed(letter), 2);
            boolean figure = letter >= '0' && letter <= '9';
            due("7 only a figure can stand behind m", y.shaft(), FAULT - (figure ? 2 : 1));
        }
    }

    private static void tapeIsFull() {
        ShaftDiscs x = new ShaftDiscs();
        for (int i = 1; i <= 80; i++) {
            due("6 byte " + i, x.feed('m'), i);
        }
        due("6 FULL", x.feed('m'), FULL);
        due("6 FULL again", x.feed(0), FULL);
        due("6 BAD ahead of FULL", x.feed(256), BAD);
        due("6 BAD ahead of FULL", x.feed(-1), BAD);
        due("6 80 bytes", x.count(6), 80);
        due("34 FULL is not told", x.status(), 0);
        due("7 the second one cannot stand", x.shaft(), FAULT - 1);
        due("7 empty then", x.count(6), 0);
        due("6 room again", x.feed('m'), 1);

        String full = LONGEST + "pppppppppppp";
        ShaftDiscs y = new ShaftDiscs();
        Checks.feed(y, full);
        due("6 the last that is taken", y.feed('x'), 80);
        due("6 the first that is refused", y.feed('x'), FULL);
        due("7 the disc that has no room", y.shaft(), FAULT - 67);
        due("8 of it", y.fault(), 3);
        due("7 the tape is as if new", Checks.read(y, LONGEST), 6);
        // the fault of a full tape is at its last byte
        ShaftDiscs z = new ShaftDiscs();
        StringBuilder noughts = new StringBuilder("m");
        while (noughts.length() < 80) {
            noughts.append('0');
        }
        due("7 a run of 79 figures, at its first", Checks.read(z, noughts.toString()), FAULT - 1);
        due("8 of it", z.fault(), 1);
    }

    private static void tens() {
        for (int tens = 0; tens <= 99; tens++) {
            String text = "m" + tens + ",0;p1,0,0;p1,0,0;";
            if (tens <= 20) {
                readsDue(text, 2);
                due("7 MARK of " + text, Checks.shaftOf(text).count(2), 10 * tens);
            } else {
                faultDue(text, 1, 2);
            }
        }
        for (int tens = 0; tens <= 9; tens++) {
            due("7 two figures", Checks.shaftOf("m0" + tens + ",0;p1,0,0;p1,0,0;").count(2), 10 * tens);
        }
        faultDue("m100,0;p1,0,0;p1,0,0;", 1, 1);
        faultDue("m020,0;p1,0,0;p1,0,0;", 1, 1);
    }

    private static void ones() {
        for (int ones = 0; ones <= 99; ones++) {
            String text = "m19," + ones + ";p1,0,0;p1,0,0;";
            if (ones <= 9) {
                readsDue(text, 2);
                due("7 MARK of " + text, Checks.shaftOf(text).count(2), 190 + ones);
            } else {
                faultDue(text, 4, 2);
            }
            if (ones > 0) {
                faultDue("m20," + ones + ";p1,0,0;p1,0,0;", 4, 2);
            }
        }
        due("7 two figures", Checks.shaftOf("m00,09;p1,0,0;p1,0,0;").count(2), 9);
        due("7 the most", Checks.shaftOf("m20,0;p1,0,0;p1,0,0;").count(2), 200);
        due("7 the most, two figures", Checks.shaftOf("m20,00;p1,0,0;p1,0,0;").count(2), 200);
        faultDue("m20,01;p1,0,0;p1,0,0;", 4, 2);
        faultDue("m0,10;p1,0,0;p1,0,0;", 3, 2);
        faultDue("m20,000;p1,0,0;p1,0,0;", 4, 1);
    }

    private static void numbersOfDiscs() {
        int[] least = {1, 0, 0};
        int[] most = {5, 40, 9};
        for (int disc = 0; disc < 2; disc++) {
            for (int which = J; which <= N; which++) {
                for (int v = 0; v <= 109; v++) {
                    // 100 to 109 stand for one figure with a nought ahead
                    String figures = v < 100 ? "" + v : "0" + (v - 100);
                    int value = v < 100 ? v : v - 100;
                    String[] told = {"1", "1", "1"};
                    told[which] = figures;
                    String one = "p" + told[0] + "," + told[1] + "," + told[2] + ";";
                    String text = "m0,0;" + (disc == 0 ? one + "p1,1,1;" : "p1,1,1;" + one);
                    if (value < least[which] || value > most[which]) {
                        faultDue(text, 5 + 7 * disc + 1 + 2 * which, 2);
                    } else {
                        readsDue(text, 2);
                        due("7 told by " + text, Checks.shaftOf(text).disc(disc, which), value);
                    }
                }
            }
        }
        ShaftDiscs x = Checks.shaftOf(LONGEST);
        for (int disc = 0; disc < 6; disc++) {
            due("7 J", x.disc(disc, J), 5);
            due("7 K", x.disc(disc, K), 40);
            due("7 N", x.disc(disc, N), 9);
        }
    }

    private static void howManyDiscs() {
        faultDue("m0,0;", 5, 1);
        faultDue("m0,0;p1,0,0;", 12, 1);
        for (int discs = 2; discs <= 6; discs++) {
            readsDue("m0,0;" + SIX.substring(0, 7 * discs), discs);
        }
        readsDue(LONGEST, 6);
        String text = "m0,0;" + SIX;
        for (char sort : "pgwts".toCharArray()) {
            faultDue(text + sort, 47, 3);
            faultDue(text + sort + "9,9", 47, 3);
            faultDue(text + sort + "1,0,0;", 47, 3);
            faultDue(LONGEST + sort, 67, 3);
        }
        for (char other : "mabz,;0 ".toCharArray()) {
            faultDue(text + other, 47, 1);
        }
        faultDue(text + "999", 47, 1);
    }

    private static void letters() {
        for (char letter = 0; letter <= 255; letter++) {
            int kind = "pgwts".indexOf(letter) + 1;
            for (int disc = 0; disc < 3; disc++) {
                String ahead = "m0,0;" + SIX.substring(0, 7 * disc);
                String text = ahead + letter + "1,0,0;p1,0,0;";
                if (kind > 0) {
                    readsDue(text, disc + 2);
                    due("7 kind of " + text, Checks.shaftOf(text).kind(disc), kind);
                } else {
                    faultDue(text, ahead.length(), 1);
                }
            }
            if (letter != 'm') {
                faultDue(letter + "0,0;p1,0,0;p1,0,0;", 0, 1);
            }
        }
        faultDue("mm0,0;", 1, 1);
        faultDue("m0,0;pp1,0,0;", 6, 1);
    }

    private static void runsOfFigures() {
        faultDue("m123,0;", 1, 1);
        faultDue("m000,0;", 1, 1);
        faultDue("m0,000;", 3, 1);
        faultDue("m0,0;p001,0,0;", 6, 1);
        faultDue("m0,0;p1,000,0;", 8, 1);
        faultDue("m0,0;p1,0,000;", 10, 1);
        faultDue("m0,0;p1,0,0001;", 10, 1);
        faultDue("1", 0, 1);
        faultDue("111", 0, 1);
        faultDue("m0,0;111", 5, 1);
        faultDue("m111", 1, 1);
        faultDue("m99", 1, 2);
        faultDue("m0 0,0;", 2, 1);
    }

    /** Each beginning of a text: the end cannot stand there, but behind the second disc and the third. */
    private static void ends() {
        String text = "m12,3;p1,20,3;g2,10,4;w3,0,05;";
        for (int length = 0; length < text.length(); length++) {
            String begun = text.substring(0, length);
            if (length == 22) {
                readsDue(begun, 2);
            } else {
                faultDue(begun, length, 1);
            }
        }
        readsDue(text, 3);
    }

    private static void firstTokenLeastNumber() {
        faultDue("m21,99;p9,99,99;", 1, 2);
        faultDue("m0,99;p9,99,99;", 3, 2);
        faultDue("m0,0;p9,99,99;", 6, 2);
        faultDue("m0,0;p1,99,99;", 8, 2);
        faultDue("m0,0;p1,0,99;", 10, 2);
        faultDue("m0,0;x9,99,99;", 5, 1);
        faultDue("m21", 1, 2);
        faultDue("m21x", 1, 2);
        faultDue("m2,1x99", 4, 1);
        // where a sign is due a number cannot stand, whatever it is
        faultDue("m0,0;p1,0,0;p1,0,0;99", 19, 1);
        faultDue("m0,0;99", 5, 1);
        faultDue("99", 0, 1);
        // a seventh disc ahead of all that stands behind it
        faultDue("m0,0;" + SIX + "p99,99,99;x", 47, 3);
        faultDue("m0,0;p1,0,0;g1,0,0;w1,0,0;t1,0,0;s1,0,0;p6,0,0;p", 41, 2);
        faultDue("m0,0;p1,0,0;g1,0,0;w1,0,0;t1,0,0;s1,0,0;p1,0,0,p", 46, 1);
    }

    private static void faultLeavesAllButTheTape() {
        ShaftDiscs x = Checks.shaftOf(EACH);
        x.row(0, 0, 1);
        x.image(0);
        x.mark(44);
        x.ask(0, 1);
        x.set(0, 1, 0);
        // all of the text but its end is sound
        due("7 a fault", Checks.read(x, "m0,1;w5,1,1;w5,1,1;w"), FAULT - 20);
        due("7 the tape is empty", x.count(6), 0);
        due("7 MARK stays", x.count(2), 44);
        due("7 DISCS stay", x.count(1), 6);
        int[][] want = {{2, 30, 0, 1}, {1, 20, 7, 2}, {1, 10, 3, 3}, {2, 8, 5, 4}, {1, 7, 2, 5}, {1, 9, 9, 1}};
        for (int disc = 0; disc < 6; disc++) {
            for (int which = J; which <= N; which++) {
                due("7 told stays", x.disc(disc, which), want[disc][which]);
            }
            due("7 kind stays", x.kind(disc), want[disc][3]);
        }
        due("7 THE TRACE stays", x.trace(0), 21);
        due("7 status stays", x.status(), 2);
        due("7 ROWS stay", x.count(0), 1);
        due("7 ACTS stay", x.undo(), 0);
        due("7 and are undone", x.count(2), 15);
        due("7 IMAGES stay", x.restore(0), 1);
        due("7 the other one, too", x.restore(1), STATE);
        due("7 the empty tape", x.shaft(), FAULT);
        due("8 the end", x.fault(), 1);
        due("7 DISCS stay", x.count(1), 6);
    }

    private static void latestFault() {
        ShaftDiscs x = new ShaftDiscs();
        due("8 before one", x.fault(), 0);
        Checks.feed(x, "m21");
        due("8 not read yet", x.fault(), 0);
        x.shaft();
        due("8 of a number", x.fault(), 2);
        x.shaft();
        due("8 of the end", x.fault(), 1);
        Checks.read(x, "m0,0;" + SIX + "p");
        due("8 of a disc", x.fault(), 3);
        due("7 sound", Checks.read(x, PAIR), 2);
        due("8 the latest FAULT yet", x.fault(), 3);
        x.mark(201);
        x.drop(0);
        x.restore(0);
        due("8 what is refused is no FAULT", x.fault(), 3);
        Checks.read(x, "m21");
        due("8 a later one", x.fault(), 2);
    }

    /** One byte changed, put in or left out, against the second writing of the document. */
    private static void everyByteEverywhere() {
        String text = "m20,0;p5,40,9;g01,7,0;";
        for (int at = 0; at <= text.length(); at++) {
            String ahead = text.substring(0, at);
            String behind = text.substring(at);
            for (char letter = 0; letter <= 255; letter++) {
                asTheModel(ahead + letter + behind);
                if (at < text.length()) {
                    asTheModel(ahead + letter + behind.substring(1));
                }
            }
            if (at < text.length()) {
                asTheModel(ahead + behind.substring(1));
                asTheModel(ahead);
            }
        }
    }

    private static void asTheModel(String text) {
        ShaftDiscs x = new ShaftDiscs();
        Model y = new Model();
        for (char letter : text.toCharArray()) {
            y.feed(letter);
        }
        due("7 " + text, Checks.read(x, text), y.shaft());
        due("8 of " + text, x.fault(), y.fault());
        for (int what = 0; what <= 6; what++) {
            due("33 of " + text, x.count(what), y.count(what));
        }
    }

    private static void inPlaceOfTheOneBefore() {
        ShaftDiscs x = Checks.shaftOf(EACH);
        x.image(0);
        x.mark(1);
        x.swap(0, 1);
        x.row(0, 0, 5);
        x.ask(0, 0);
        x.below(0);
        due("7 fewer discs", Checks.read(x, PAIR), 2);
        due("7 the others are gone", x.disc(2, 0), BAD);
        due("7 no ACT can be undone", x.count(5), 0);
        due("7 no ACT can be undone", x.undo(), STATE);
        due("7 MARK", x.count(2), 10);
        due("7 J of all", x.count(3), 2);
        due("7 K of all", x.count(4), 10);
        due("7 ROWS stay", x.count(0), 1);
        due("7 THE TRACE stays", x.trace(0), 12);
        due("7 IMAGES stay", x.restore(0), 1);
        due("28 the discs are there again", x.count(1), 6);
        due("7 more discs", Checks.read(x, CHAIN), 3);
        due("7 the same again", Checks.read(x, CHAIN), 3);
        due("7 ACTS from none on", x.count(5), 0);
        x.mark(5);
        due("7 one can be undone", x.undo(), 0);
        due("7 MARK of the text", x.count(2), 1);
    }
}
