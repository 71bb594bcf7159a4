/** Terms 1 and promises 1 to 5: the limits of ROWS, LANES, ITEMS and PLACES, empty and full rows. */
public final class EdgeRowsTest implements Answers {
    private static final Checks C = new Checks();

    public static void main(String[] args) {
        newObject();
        rowsAndLanes();
        sizes();
        itemsAreNoughtAtFirst();
        inPlaceOfWhatIsThere();
        places();
        lowestBits();
        copyLimits();
        copyAsTheyWereAhead();
        drops();
        C.end("EdgeRowsTest");
    }

    private static void due(String call, long got, long want) {
        C.due(call, got, want);
    }

    private static void newObject() {
        ShaftDiscs x = new ShaftDiscs();
        due("1 status at first: there was none", x.status(), 0);
        due("1 fault at first", x.fault(), 0);
        for (int what = 0; what <= 6; what++) {
            due("1 count at first", x.count(what), 0);
        }
        for (int i = 0; i <= 16; i++) {
            due("1 trace at first", x.trace(i), NONE);
        }
        for (int row = 0; row <= 7; row++) {
            due("1 ROWS are missing at first", x.drop(row), NULL);
        }
        due("1 nothing can be undone at first", x.undo(), STATE);
        due("1 no image at first", x.restore(0), STATE);
        due("1 no image at first", x.restore(1), STATE);
        due("1 the tape is empty at first", x.feed('m'), 1);
        ShaftDiscs y = new ShaftDiscs();
        y.row(0, 0, 3);
        due("1 an object has its own rows", x.count(0), 0);
        due("1 an object has its own tape", y.count(6), 0);
    }

    private static void rowsAndLanes() {
        ShaftDiscs x = new ShaftDiscs();
        for (int row = 0; row <= 7; row++) {
            due("2 ROW " + row, x.row(row, row % 3, row), row);
            due("2 so many ROWS", x.count(0), row + 1);
        }
        for (int row : new int[] {-1, 8, LEAST, MOST}) {
            due("2 no ROW " + row, x.row(row, 0, 1), BAD);
            due("3 no ROW " + row, x.set(row, 0, 1), BAD);
            due("4 no ROW a " + row, x.copy(row, 0, 0, 0, 0), BAD);
            due("4 no ROW b " + row, x.copy(0, 0, row, 0, 0), BAD);
            due("5 no ROW " + row, x.drop(row), BAD);
        }
        for (int lane : new int[] {-1, 3, LEAST, MOST}) {
            due("2 no LANE " + lane, x.row(0, lane, 1), BAD);
        }
        for (int lane = 0; lane <= 2; lane++) {
            due("2 LANE " + lane, x.row(0, lane, 1), 1);
        }
        due("2 so many ROWS", x.count(0), 8);
    }

    private static void sizes() {
        for (int lane = 0; lane <= 2; lane++) {
            ShaftDiscs x = new ShaftDiscs();
            due("2 none", x.row(0, lane, 0), 0);
            due("2 the most", x.row(0, lane, 40), 40);
            due("2 beyond the most", x.row(0, lane, 41), BAD);
            due("2 far beyond", x.row(0, lane, MOST), BAD);
            due("34 BAD is not told", x.status(), 0);
            due("2 fewer than none", x.row(0, lane, -1), SIZE);
            due("34 SIZE", x.status(), 4);
            due("2 by far fewer", x.row(0, lane, LEAST), SIZE);
            due("2 BAD, ROW ahead of SIZE", x.row(8, lane, -1), BAD);
            due("2 BAD, LANE ahead of SIZE", x.row(0, 3, -1), BAD);
            due("34 SIZE is told yet", x.status(), 4);
            due("2 what was there is there", x.drop(0), 40);
            due("2 SIZE makes none", x.row(0, lane, -1), SIZE);
            due("2 SIZE makes none", x.count(0), 0);
        }
    }

    private static void itemsAreNoughtAtFirst() {
        ShaftDiscs x = Items.readable();
        for (int lane = 0; lane <= 2; lane++) {
            x.row(lane, lane, 40);
            for (int i = 0; i < 40; i++) {
                due("2 ITEM " + i, Items.at(x, lane, lane, i), 0);
            }
        }
    }

    private static void inPlaceOfWhatIsThere() {
        ShaftDiscs x = Items.readable();
        x.row(0, 0, 3);
        x.set(0, 2, 5);
        due("2 the same again", x.row(0, 0, 3), 3);
        due("2 ITEMS are 0", Items.at(x, 0, 0, 2), 0);
        x.set(0, 2, 5);
        due("2 a shorter one", x.row(0, 0, 2), 2);
        due("2 ITEM 2 is gone", x.set(0, 2, 1), PLACE);
        due("2 a longer one", x.row(0, 0, 4), 4);
        due("2 ITEM 2 is 0", Items.at(x, 0, 0, 2), 0);
        due("2 another LANE", x.row(0, 2, 1), 1);
        due("2 it is of ints", x.set(0, 0, 70000), 70000);
        due("2 an empty one", x.row(0, 1, 0), 0);
        due("2 it has no ITEM", x.set(0, 0, 1), PLACE);
        due("2 one ROW all the while, and the spare one", x.count(0), 2);
    }

    private static void places() {
        ShaftDiscs x = Items.readable();
        for (int size : new int[] {1, 2, 40}) {
            x.row(0, 2, size);
            due("3 the first of " + size, x.set(0, 0, 6), 6);
            due("3 the last of " + size, x.set(0, size - 1, 7), 7);
            due("34 none", x.status(), 0);
            due("3 behind the last of " + size, x.set(0, size, 8), PLACE);
            due("34 PLACE", x.status(), 2);
            due("3 ahead of the first", x.set(0, -1, 8), PLACE);
            due("3 far off", x.set(0, LEAST, 8), PLACE);
            due("3 far off", x.set(0, MOST, 8), PLACE);
            due("3 the last is as it was", Items.at(x, 2, 0, size - 1), 7);
        }
        for (int i = 0; i < 40; i++) {
            x.set(0, i, i);
        }
        for (int i = 0; i < 40; i++) {
            due("3 ITEM i, no other", Items.at(x, 2, 0, i), i);
        }
        x.row(1, 0, 0);
        due("3 of an empty ROW", x.set(1, 0, 1), PLACE);
        due("3 of a missing ROW", x.set(2, 0, 1), NULL);
        due("3 NULL ahead of PLACE", x.set(2, -1, 1), NULL);
        due("34 NULL", x.status(), 1);
    }

    private static void lowestBits() {
        ShaftDiscs x = Items.readable();
        int[][] of = {
            {0, 0, 0}, {0, 127, 127}, {0, 128, -128}, {0, 255, -1}, {0, 256, 0}, {0, 257, 1}, {0, -1, -1},
            {0, -128, -128}, {0, -129, 127}, {0, 32768, 0}, {0, 65535, -1}, {0, MOST, -1}, {0, LEAST, 0},
            {1, 127, 127}, {1, 128, 128}, {1, 255, 255}, {1, 32767, 32767}, {1, 32768, -32768}, {1, 65535, -1},
            {1, 65536, 0}, {1, 65537, 1}, {1, -1, -1}, {1, -32768, -32768}, {1, -32769, 32767}, {1, MOST, -1},
            {1, LEAST, 0},
            {2, 65536, 65536}, {2, 32768, 32768}, {2, -1, -1}, {2, MOST, MOST}, {2, LEAST, LEAST}};
        for (int lane = 0; lane <= 2; lane++) {
            x.row(lane, lane, 2);
        }
        for (int[] one : of) {
            due("3 LANE " + one[0] + ", " + one[1], x.set(one[0], 1, one[1]), one[2]);
        }
        due("3 wraps around", x.set(0, 0, 256 + 9), 9);
        due("3 and is kept so", Items.at(x, 0, 0, 0), 9);
        due("3 wraps around", x.set(1, 0, -65536 + 9), 9);
        due("3 and is kept so", Items.at(x, 1, 1, 0), 9);
        x.set(2, 0, 256 + 9);
        due("3 ints do not", Items.at(x, 2, 2, 0), NONE);
    }

    private static void copyLimits() {
        ShaftDiscs x = Items.readable();
        x.row(0, 1, 40);
        x.row(1, 1, 40);
        x.row(2, 1, 3);
        x.row(3, 1, 0);
        due("4 all of a full one", x.copy(0, 0, 1, 0, 40), 40);
        due("4 one more", x.copy(0, 0, 1, 0, 41), PLACE);
        due("4 the last one", x.copy(0, 39, 1, 39, 1), 1);
        due("4 behind the last of a", x.copy(0, 40, 1, 39, 1), PLACE);
        due("4 behind the last of b", x.copy(0, 39, 1, 40, 1), PLACE);
        due("4 none at both ends", x.copy(0, 40, 1, 40, 0), 0);
        due("4 none beyond an end of a", x.copy(0, 41, 1, 40, 0), PLACE);
        due("4 none beyond an end of b", x.copy(0, 40, 1, 41, 0), PLACE);
        due("4 to the end of a shorter one", x.copy(0, 37, 2, 0, 3), 3);
        due("4 beyond the end of a shorter one", x.copy(0, 36, 2, 0, 4), PLACE);
        due("4 of a shorter one", x.copy(2, 1, 0, 0, 2), 2);
        due("4 beyond the shorter one", x.copy(2, 1, 0, 0, 3), PLACE);
        due("4 none of an empty one", x.copy(3, 0, 2, 3, 0), 0);
        due("4 none to an empty one", x.copy(2, 0, 3, 0, 0), 0);
        due("4 one of an empty one", x.copy(3, 0, 2, 0, 1), PLACE);
        due("4 one to an empty one", x.copy(2, 0, 3, 0, 1), PLACE);
        due("34 PLACE", x.status(), 2);
        due("4 an empty one to itself", x.copy(3, 0, 3, 0, 0), 0);
        due("34 none", x.status(), 0);
        int[] wild = {-1, LEAST, MOST, MOST - 1};
        for (int far : wild) {
            due("4 i", x.copy(0, far, 1, 0, 1), PLACE);
            due("4 j", x.copy(0, 0, 1, far, 1), PLACE);
            due("4 n", x.copy(0, 0, 1, 0, far), PLACE);
            due("4 i, n", x.copy(0, far, 1, 0, far), PLACE);
            due("4 j, n", x.copy(0, 0, 1, far, far), PLACE);
        }
        due("4 together 0", x.copy(0, -1, 1, 0, 1), PLACE);
        due("4 together within", x.copy(0, 5, 1, 5, -3), PLACE);
        lanesOfTwo(x);
    }

    private static void lanesOfTwo(ShaftDiscs x) {
        for (int a = 0; a <= 2; a++) {
            for (int b = 0; b <= 2; b++) {
                x.row(4, a, 2);
                x.row(5, b, 2);
                due("4 LANES " + a + ", " + b, x.copy(4, 0, 5, 0, 2), a == b ? 2 : STORE);
                due("34 of " + a + ", " + b, x.status(), a == b ? 0 : 5);
                due("4 none of " + a + ", " + b, x.copy(4, 0, 5, 0, 0), a == b ? 0 : STORE);
                due("4 STORE ahead of PLACE", x.copy(4, 0, 5, 0, 3), a == b ? PLACE : STORE);
            }
        }
        x.drop(4);
        due("4 a is missing", x.copy(4, 0, 5, 0, 1), NULL);
        due("4 b is missing", x.copy(5, 0, 4, 0, 1), NULL);
        due("4 both", x.copy(4, 0, 4, 0, 0), NULL);
        due("4 NULL ahead of PLACE", x.copy(5, -1, 4, -1, -1), NULL);
        due("34 NULL", x.status(), 1);
    }

    private static void itemsDue(String call, ShaftDiscs x, int row, int... want) {
        for (int i = 0; i < want.length; i++) {
            due(call + ", ITEM " + i, Items.at(x, 0, row, i), want[i]);
        }
    }

    private static ShaftDiscs oneToSix() {
        ShaftDiscs x = Items.readable();
        x.row(0, 0, 6);
        for (int i = 0; i < 6; i++) {
            x.set(0, i, i + 1);
        }
        return x;
    }

    private static void copyAsTheyWereAhead() {
        ShaftDiscs up = oneToSix();
        due("4 up by one", up.copy(0, 0, 0, 1, 5), 5);
        itemsDue("4 up by one", up, 0, 1, 1, 2, 3, 4, 5);
        ShaftDiscs down = oneToSix();
        due("4 down by one", down.copy(0, 1, 0, 0, 5), 5);
        itemsDue("4 down by one", down, 0, 2, 3, 4, 5, 6, 6);
        ShaftDiscs far = oneToSix();
        due("4 up by two", far.copy(0, 1, 0, 3, 3), 3);
        itemsDue("4 up by two", far, 0, 1, 2, 3, 2, 3, 4);
        ShaftDiscs stay = oneToSix();
        due("4 where it is", stay.copy(0, 0, 0, 0, 6), 6);
        itemsDue("4 where it is", stay, 0, 1, 2, 3, 4, 5, 6);
        ShaftDiscs two = oneToSix();
        two.row(1, 0, 4);
        two.set(1, 0, 9);
        two.set(1, 3, 8);
        due("4 to another", two.copy(0, 2, 1, 1, 2), 2);
        itemsDue("4 to another", two, 1, 9, 3, 4, 8);
        itemsDue("4 a stays", two, 0, 1, 2, 3, 4, 5, 6);
        two.set(1, 1, 7);
        itemsDue("4 a is another ROW yet", two, 0, 1, 2, 3, 4, 5, 6);
        due("4 none", two.copy(0, 2, 1, 1, 0), 0);
        itemsDue("4 none", two, 1, 9, 7, 4, 8);
    }

    private static void drops() {
        ShaftDiscs x = Items.readable();
        for (int size : new int[] {0, 1, 40}) {
            for (int lane = 0; lane <= 2; lane++) {
                x.row(3, lane, size);
                due("5 it had " + size, x.drop(3), size);
                due("34 none", x.status(), 0);
                due("5 it is missing", x.drop(3), NULL);
                due("34 NULL", x.status(), 1);
                due("5 none is there", x.count(0), 0);
            }
        }
        x.row(0, 0, 2);
        x.row(1, 0, 2);
        x.set(0, 1, 8);
        due("5 one of two", x.drop(1), 2);
        due("5 the other one stays", x.count(0), 1);
        due("5 and its ITEMS", Items.at(x, 0, 0, 1), 8);
        due("5 the first", x.drop(0), 2);
        due("5 the last", x.drop(7), 2);
        due("5 set of it", x.set(0, 1, 1), NULL);
        due("5 copy of it", x.copy(0, 0, 0, 0, 0), NULL);
        due("5 who of it", x.who(0, 0, 0, 0, 1), NULL);
        due("5 again one", x.row(0, 0, 2), 2);
        due("5 ITEMS are 0", Items.at(x, 0, 0, 1), 0);
    }
}
