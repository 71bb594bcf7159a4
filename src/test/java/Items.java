/** No call tells an ITEM; who() of two discs of weight 2 does, since BOX 1 of these is K. */
final class Items implements Answers {
    private static final int SPARE = 7;

    private Items() {
    }

    /** An object with a shaft by which items can be told. */
    static ShaftDiscs readable() {
        return Checks.shaftOf(TWOS);
    }

    /** The ITEM, if it is 0 to 40; else NONE. Row 7 is used for it; x must hold the shaft TWOS. */
    static int at(ShaftDiscs x, int lane, int row, int i) {
        x.row(SPARE, lane, 2);
        int copied = x.copy(row, i, SPARE, 1, 1);
        return copied == 1 ? x.who(0, 3, SPARE, 0, 2) : copied;
    }
}
