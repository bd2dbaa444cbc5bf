/** Promises 1 to 9: a new object, rows, and the places of texts. */
public final class RowsTest {
    private static final Check CHECK = new Check("RowsTest");

    public static void main(String[] args) {
        newObject();
        row();
        layAtTear();
        copy();
        mean();
        text();
        CHECK.end();
    }

    /** Promise 1. */
    private static void newObject() {
        TwoFliers x = new TwoFliers();
        for (int what = 0; what <= 6; what++) {
            CHECK.due("new count " + what, x.count(what), 0);
        }
        CHECK.asked("new plan(0)", x, x.plan(0), 1, 0);
        CHECK.asked("new plan(1)", x, x.plan(1), 1, 0);
        CHECK.asked("new plan(8)", x, x.plan(8), 1, 1);
        for (int r = 0; r < 6; r++) {
            CHECK.finding("new row " + r, x, x.tear(r), Make.NOTHING);
        }
        for (int t = 0; t < 4; t++) {
            CHECK.finding("new text " + t, x, x.fault(t), Make.NOTHING);
        }
        for (int k = 1; k <= 3; k++) {
            CHECK.finding("new story " + k, x, x.lies(k, 0), Make.NOTHING);
        }
        CHECK.odds("new where", x, x.where(0, 0), 1, 1, 1);
    }

    /** Promise 2. */
    private static void row() {
        TwoFliers x = new TwoFliers();
        CHECK.due("row 0 of 0", x.row(0, 0), 0);
        CHECK.due("row 5 of 40", x.row(5, 40), 40);
        CHECK.asked("its last", x, x.at(5, 39), 1, 0);
        CHECK.due("no row 6", x.row(6, 1), TwoFliers.BAD);
        CHECK.due("no row -1", x.row(-1, -1), TwoFliers.BAD);
        CHECK.due("41", x.row(0, 41), TwoFliers.BAD);
        CHECK.due("greatest", x.row(0, Integer.MAX_VALUE), TwoFliers.BAD);
        CHECK.due("no finding yet", x.finding(), 0);
        CHECK.finding("below 0", x, x.row(5, -1), Make.SIZE);
        CHECK.finding("least", x, x.row(5, Integer.MIN_VALUE), Make.SIZE);
        CHECK.due("still there", x.count(5), 2);
        x.lay(5, 3, 8);
        CHECK.due("anew", x.row(5, 4), 4);
        CHECK.asked("all 0 again", x, x.at(5, 3), 1, 0);
        CHECK.finding("shorter", x, x.at(5, 4), Make.BEYOND);
    }

    /** Promises 3, 4, 5. */
    private static void layAtTear() {
        TwoFliers x = new TwoFliers();
        CHECK.due("lay BAD", x.lay(6, 0, 0), TwoFliers.BAD);
        CHECK.due("at BAD", x.at(-1, 0), TwoFliers.BAD);
        CHECK.due("tear BAD", x.tear(6), TwoFliers.BAD);
        CHECK.finding("lay NOTHING", x, x.lay(2, -1, 0), Make.NOTHING);
        CHECK.finding("at NOTHING", x, x.at(2, 99), Make.NOTHING);
        CHECK.finding("tear NOTHING", x, x.tear(2), Make.NOTHING);
        x.row(2, 3);
        CHECK.asked("lay", x, x.lay(2, 2, Integer.MIN_VALUE), 1, 0);
        CHECK.asked("lay again", x, x.lay(2, 2, 5), 1, Integer.MIN_VALUE);
        CHECK.asked("at", x, x.at(2, 2), 1, 5);
        CHECK.finding("lay beyond", x, x.lay(2, 3, 1), Make.BEYOND);
        CHECK.finding("lay below", x, x.lay(2, -1, 1), Make.BEYOND);
        CHECK.finding("at beyond", x, x.at(2, 3), Make.BEYOND);
        CHECK.finding("at below", x, x.at(2, Integer.MIN_VALUE), Make.BEYOND);
        CHECK.due("asked stays", x.asked(), 5);
        CHECK.due("tear", x.tear(2), 1);
        CHECK.finding("torn", x, x.at(2, 0), Make.NOTHING);
        CHECK.finding("tear again", x, x.tear(2), Make.NOTHING);
        CHECK.due("rows", x.count(5), 0);
    }

    /** Promise 6. */
    private static void copy() {
        TwoFliers x = new TwoFliers();
        CHECK.due("BAD from", x.copy(6, 0, 0, 0, -1), TwoFliers.BAD);
        CHECK.due("BAD to", x.copy(0, 0, -1, 0, -1), TwoFliers.BAD);
        CHECK.finding("SIZE ahead of NOTHING", x, x.copy(0, 0, 1, 0, -1), Make.SIZE);
        Make.row(x, 0, 1, 2, 3, 4, 5);
        CHECK.finding("NOTHING to", x, x.copy(0, 9, 1, 0, 1), Make.NOTHING);
        CHECK.finding("NOTHING from", x, x.copy(1, 9, 0, 0, 1), Make.NOTHING);
        x.row(1, 3);
        CHECK.due("copy", x.copy(0, 1, 1, 0, 3), 1);
        CHECK.asked("copied", x, x.at(1, 2), 1, 4);
        CHECK.due("up within itself", x.copy(0, 0, 0, 1, 4), 1);
        sees(x, 0, 1, 1, 2, 3, 4);
        CHECK.due("down within itself", x.copy(0, 1, 0, 0, 4), 1);
        sees(x, 0, 1, 2, 3, 4, 4);
        CHECK.due("none at the ends", x.copy(0, 5, 1, 3, 0), 1);
        CHECK.finding("none above", x, x.copy(0, 6, 1, 3, 0), Make.BEYOND);
        CHECK.finding("none above to", x, x.copy(0, 5, 1, 4, 0), Make.BEYOND);
        CHECK.finding("none below", x, x.copy(0, -1, 1, 0, 0), Make.BEYOND);
        CHECK.finding("none below to", x, x.copy(0, 0, 1, -1, 0), Make.BEYOND);
        CHECK.finding("not so many", x, x.copy(0, 3, 1, 0, 3), Make.BEYOND);
        CHECK.finding("not so many to", x, x.copy(0, 0, 1, 1, 3), Make.BEYOND);
        CHECK.finding("greatest", x, x.copy(0, 1, 1, 1, Integer.MAX_VALUE), Make.BEYOND);
        CHECK.finding("greatest place", x, x.copy(0, Integer.MAX_VALUE, 1, 1, 1), Make.BEYOND);
        sees(x, 1, 2, 3, 4);
    }

    private static void sees(TwoFliers x, int r, int... values) {
        for (int i = 0; i < values.length; i++) {
            CHECK.asked("row " + r + " place " + i, x, x.at(r, i), 1, values[i]);
        }
    }

    /** Promise 7. */
    private static void mean() {
        TwoFliers x = new TwoFliers();
        CHECK.due("BAD", x.mean(6), TwoFliers.BAD);
        CHECK.finding("NOTHING", x, x.mean(0), Make.NOTHING);
        x.row(0, 0);
        CHECK.finding("NOUGHT", x, x.mean(0), Make.NOUGHT);
        Make.row(x, 0, 3, 4);
        CHECK.asked("cut", x, x.mean(0), 1, 3);
        Make.row(x, 0, -3, -4);
        CHECK.asked("cut below 0", x, x.mean(0), 1, -3);
        Make.row(x, 0, Integer.MAX_VALUE, Integer.MAX_VALUE, Integer.MAX_VALUE);
        CHECK.asked("great", x, x.mean(0), 1, Integer.MAX_VALUE);
    }

    /** Promises 8, 9. */
    private static void text() {
        TwoFliers x = new TwoFliers();
        CHECK.due("BAD text", x.text(4, -1), TwoFliers.BAD);
        CHECK.due("BAD text", x.text(-1, 0), TwoFliers.BAD);
        CHECK.due("81", x.text(0, 81), TwoFliers.BAD);
        CHECK.finding("below 0", x, x.text(0, -1), Make.SIZE);
        CHECK.due("put BAD", x.put(4, 0, 0), TwoFliers.BAD);
        CHECK.finding("put NOTHING", x, x.put(3, 99, 0), Make.NOTHING);
        CHECK.due("text 3 of 80", x.text(3, 80), 80);
        CHECK.due("blank", x.put(3, 79, 255), 1032);
        CHECK.due("cut to a byte", x.put(3, 79, 128), 999);
        CHECK.due("least byte", x.put(3, 79, 127 + 512), 872);
        CHECK.due("greatest byte", x.put(3, 79, 0), 1127);
        CHECK.finding("beyond", x, x.put(3, 80, 0), Make.BEYOND);
        CHECK.finding("below", x, x.put(3, -1, 0), Make.BEYOND);
        CHECK.due("anew", x.text(3, 80), 80);
        CHECK.due("blank again", x.put(3, 79, 1), 1032);
        CHECK.due("empty", x.text(2, 0), 0);
        CHECK.due("texts", x.count(6), 2);
    }
}
