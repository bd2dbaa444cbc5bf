/** Promises 1 to 9 at their edges: each test stands for the sentence of the document ahead of it. */
public final class EdgesRowsTest {
    private static final Check CHECK = new Check("EdgesRowsTest");
    private static final int LEAST = Integer.MIN_VALUE, MOST = Integer.MAX_VALUE;

    public static void main(String[] args) {
        newObject();
        rowsThereAre();
        rowSizes();
        rowIsAnew();
        rowRefusedFirst();
        placesOfRows(0);
        placesOfRows(1);
        placesOfRows(40);
        layAndAtRefusedFirst();
        laidInts();
        tear();
        copyOrder();
        copyBounds();
        copyOfNone();
        copyAsIfTakenAhead();
        meanCut();
        meanRefused();
        textsThereAre();
        textSizes();
        putBounds();
        putCutToAByte();
        CHECK.end();
    }

    private static Watch watch(TwoFliers x) {
        return new Watch(CHECK, x);
    }

    private static void sees(TwoFliers x, int r, int... values) {
        for (int i = 0; i < values.length; i++) {
            CHECK.asked("row " + r + " place " + i, x, x.at(r, i), 1, values[i]);
        }
        CHECK.finding("row " + r + " has no more", x, x.at(r, values.length), Make.BEYOND);
    }

    /** "No ROWS, TEXTS, STORIES, SIGNS; a FLIGHT without hours." "(at first: from CELL 0, no hours, ENDS 1)" */
    private static void newObject() {
        TwoFliers x = new TwoFliers();
        for (int what = 0; what <= 6; what++) {
            CHECK.due("new count(" + what + ")", x.count(what), 0);
        }
        int[] plan = {0, 0, -9, -9, -9, -9, -9, -9, 1, -9, -9, -9, -9, -9, -9};
        for (int what = 0; what <= 14; what++) {
            CHECK.asked("new plan(" + what + ")", x, x.plan(what), 1, plan[what]);
        }
        for (int r = 0; r <= 5; r++) {
            CHECK.finding("row " + r + " is missing at first", x, x.at(r, 0), Make.NOTHING);
        }
        for (int t = 0; t <= 3; t++) {
            CHECK.finding("text " + t + " is missing at first", x, x.put(t, 0, 0), Make.NOTHING);
        }
        for (int k = 1; k <= 3; k++) {
            CHECK.finding("story " + k + " is missing at first", x, x.lies(k, 0), Make.NOTHING);
        }
        for (int e = -1; e <= 12; e++) {
            CHECK.due("there is no sign " + e, x.told(e, 0), TwoFliers.BAD);
        }
    }

    /** "ROWS 0 .. 5": row() BAD below and above. */
    private static void rowsThereAre() {
        for (int r = 0; r <= 5; r++) {
            TwoFliers x = new TwoFliers();
            int row = r;
            watch(x).changes("row " + r, () -> x.row(row, 1), 1);
            CHECK.due("row " + r + " is there", x.at(r, 0), 1);
            CHECK.due("no other one is", x.count(5), 1);
        }
        TwoFliers x = new TwoFliers();
        for (int r : new int[] {-1, 6, LEAST, MOST}) {
            watch(x).bad("row(" + r + ", 0)", () -> x.row(r, 0));
        }
    }

    /** "rows of 0 to 40 ints"; "A ROW is there with n ints 0: n. BAD: also n above 40; SIZE: below 0." */
    private static void rowSizes() {
        for (int n : new int[] {0, 1, 39, 40}) {
            TwoFliers x = new TwoFliers();
            watch(x).changes("row of " + n, () -> x.row(3, n), n);
            sees(x, 3, new int[n]);
        }
        TwoFliers x = new TwoFliers();
        Make.row(x, 3, 5, 6);
        for (int n : new int[] {41, 42, MOST}) {
            watch(x).bad("row of " + n, () -> x.row(3, n));
            watch(x).bad("row of " + n + " that is missing", () -> x.row(4, n));
        }
        for (int n : new int[] {-1, -2, LEAST}) {
            watch(x).finding("row of " + n, () -> x.row(3, n), Make.SIZE);
            watch(x).finding("row of " + n + " that is missing", () -> x.row(4, n), Make.SIZE);
        }
        sees(x, 3, 5, 6);
        CHECK.due("no row was made", x.count(5), 1);
    }

    /** "A ROW is there with n ints 0": a longer or shorter one, too, has nothing of the earlier one. */
    private static void rowIsAnew() {
        TwoFliers x = new TwoFliers();
        x.row(0, 40);
        for (int i = 0; i < 40; i++) {
            x.lay(0, i, i + 1);
        }
        Make.row(x, 1, 7, 7);
        CHECK.due("shorter", x.row(0, 2), 2);
        sees(x, 0, 0, 0);
        CHECK.due("longer again", x.row(0, 40), 40);
        sees(x, 0, new int[40]);
        sees(x, 1, 7, 7);
    }

    /** "Refused is, the first of these that fits, in this order: BAD -1, .. FINDING -3". */
    private static void rowRefusedFirst() {
        TwoFliers x = new TwoFliers();
        for (int r : new int[] {-1, 6}) {
            watch(x).bad("BAD ahead of SIZE, row " + r, () -> x.row(r, -1));
            watch(x).bad("BAD ahead of SIZE, text " + r, () -> x.text(r, -1));
        }
    }

    /** "Place i of a ROW": BEYOND "(a place that there is not)", for lay() and at(). */
    private static void placesOfRows(int size) {
        TwoFliers x = new TwoFliers();
        x.row(2, size);
        for (int i : new int[] {-1, size, size + 1, LEAST, MOST}) {
            watch(x).finding("lay " + i + " of " + size, () -> x.lay(2, i, 9), Make.BEYOND);
            watch(x).finding("at " + i + " of " + size, () -> x.at(2, i), Make.BEYOND);
        }
        if (size > 0) {
            CHECK.asked("lay 0 of " + size, x, x.lay(2, 0, 8), 1, 0);
            watch(x).asks("at 0 of " + size, () -> x.at(2, 0), 1, 8);
            CHECK.asked("lay the last of " + size, x, x.lay(2, size - 1, 9), 1, size == 1 ? 8 : 0);
            watch(x).asks("at the last of " + size, () -> x.at(2, size - 1), 1, 9);
        }
    }

    /** "BAD; NOTHING; BEYOND." for lay() and at(). */
    private static void layAndAtRefusedFirst() {
        TwoFliers x = new TwoFliers();
        for (int r : new int[] {-1, 6, LEAST, MOST}) {
            watch(x).bad("lay of row " + r, () -> x.lay(r, -1, 1));
            watch(x).bad("at of row " + r, () -> x.at(r, -1));
        }
        for (int r = 0; r <= 5; r++) {
            int row = r;
            watch(x).finding("lay of missing row " + r, () -> x.lay(row, -1, 1), Make.NOTHING);
            watch(x).finding("at of missing row " + r, () -> x.at(row, 40), Make.NOTHING);
        }
    }

    /** "Place i of a ROW is v: what it was, told by asked(): 1." */
    private static void laidInts() {
        TwoFliers x = new TwoFliers();
        x.row(5, 3);
        x.where(0, 0);
        CHECK.asked("the least int", x, x.lay(5, 1, LEAST), 1, 0);
        CHECK.asked("the greatest int", x, x.lay(5, 1, MOST), 1, LEAST);
        CHECK.asked("the same int", x, x.lay(5, 1, MOST), 1, MOST);
        CHECK.asked("as TwoFliers.NONE", x, x.lay(5, 1, -9), 1, MOST);
        CHECK.asked("was as TwoFliers.NONE", x, x.lay(5, 1, 4), 1, -9);
        sees(x, 5, 0, 4, 0);
        CHECK.due("upper() stays", x.upper(), 1);
        CHECK.due("no finding but by sees", x.findings(2), 1);
    }

    /** "A ROW is missing: 1. BAD; NOTHING." */
    private static void tear() {
        TwoFliers x = new TwoFliers();
        for (int r : new int[] {-1, 6, LEAST, MOST}) {
            watch(x).bad("tear " + r, () -> x.tear(r));
        }
        for (int r = 0; r <= 5; r++) {
            x.row(r, 7 * r);
        }
        watch(x).changes("tear an empty row", () -> x.tear(0), 1);
        watch(x).changes("tear the last row", () -> x.tear(5), 1);
        CHECK.due("four are left", x.count(5), 4);
        watch(x).finding("row 0 is missing", () -> x.tear(0), Make.NOTHING);
        watch(x).finding("row 5 is missing", () -> x.tear(5), Make.NOTHING);
        CHECK.due("row 5 there again", x.row(5, 35), 35);
        sees(x, 5, new int[35]);
    }

    /** "BAD; SIZE: n below 0; NOTHING: either; BEYOND: not so many there (..). (In this order.)" */
    private static void copyOrder() {
        TwoFliers x = new TwoFliers();
        Make.row(x, 0, 1, 2, 3);
        for (int r : new int[] {-1, 6}) {
            watch(x).bad("from row " + r, () -> x.copy(r, -1, 4, -1, -1));
            watch(x).bad("to row " + r, () -> x.copy(4, -1, r, -1, -1));
        }
        for (int n : new int[] {-1, LEAST}) {
            watch(x).finding("SIZE ahead of NOTHING from", () -> x.copy(4, 0, 0, 0, n), Make.SIZE);
            watch(x).finding("SIZE ahead of NOTHING to", () -> x.copy(0, 0, 4, 0, n), Make.SIZE);
            watch(x).finding("SIZE ahead of BEYOND", () -> x.copy(0, -1, 0, 9, n), Make.SIZE);
        }
        watch(x).finding("NOTHING from ahead of BEYOND to", () -> x.copy(4, 0, 0, 4, 0), Make.NOTHING);
        watch(x).finding("NOTHING to ahead of BEYOND from", () -> x.copy(0, 4, 4, 0, 0), Make.NOTHING);
        watch(x).finding("NOTHING: both are one", () -> x.copy(4, 0, 4, 0, 0), Make.NOTHING);
    }

    /** "BEYOND: not so many there": the last that goes and the first that does not, on both sides. */
    private static void copyBounds() {
        TwoFliers x = new TwoFliers();
        Make.row(x, 0, 1, 2, 3, 4);
        x.row(1, 3);
        watch(x).finding("one too many from", () -> x.copy(0, 2, 1, 0, 3), Make.BEYOND);
        watch(x).finding("one too many to", () -> x.copy(0, 0, 1, 1, 3), Make.BEYOND);
        watch(x).finding("from -1", () -> x.copy(0, -1, 1, 0, 1), Make.BEYOND);
        watch(x).finding("to -1", () -> x.copy(0, 0, 1, -1, 1), Make.BEYOND);
        watch(x).finding("from the end", () -> x.copy(0, 4, 1, 0, 1), Make.BEYOND);
        watch(x).finding("to the end", () -> x.copy(0, 0, 1, 3, 1), Make.BEYOND);
        watch(x).finding("the most of all", () -> x.copy(0, MOST, 1, MOST, MOST), Make.BEYOND);
        watch(x).finding("the most from 1", () -> x.copy(0, 1, 1, 0, MOST), Make.BEYOND);
        watch(x).finding("the most to 1", () -> x.copy(0, 0, 1, 1, MOST), Make.BEYOND);
        watch(x).finding("the least places", () -> x.copy(0, LEAST, 1, LEAST, MOST), Make.BEYOND);
        watch(x).changes("the last three", () -> x.copy(0, 1, 1, 0, 3), 1);
        sees(x, 1, 2, 3, 4);
        watch(x).changes("the last to the last", () -> x.copy(0, 3, 1, 2, 1), 1);
        watch(x).changes("the first to the first", () -> x.copy(0, 0, 1, 0, 1), 1);
        sees(x, 1, 1, 3, 4);
        sees(x, 0, 1, 2, 3, 4);
        x.row(2, 40);
        x.row(3, 40);
        x.lay(2, 39, 5);
        watch(x).changes("all forty", () -> x.copy(2, 0, 3, 0, 40), 1);
        CHECK.asked("the fortieth", x, x.at(3, 39), 1, 5);
        watch(x).finding("forty-one", () -> x.copy(2, 0, 3, 0, 41), Make.BEYOND);
    }

    /** "(with n 0, too, if i or j is below 0 or above the size)" */
    private static void copyOfNone() {
        TwoFliers x = new TwoFliers();
        Make.row(x, 0, 1, 2);
        x.row(1, 0);
        watch(x).same("none of 0 and 0", () -> x.copy(0, 0, 1, 0, 0), 1);
        watch(x).same("none from the size", () -> x.copy(0, 2, 1, 0, 0), 1);
        watch(x).same("none to the size", () -> x.copy(1, 0, 0, 2, 0), 1);
        watch(x).finding("none from above the size", () -> x.copy(0, 3, 1, 0, 0), Make.BEYOND);
        watch(x).finding("none to above the size", () -> x.copy(1, 0, 0, 3, 0), Make.BEYOND);
        watch(x).finding("none from above the empty", () -> x.copy(1, 1, 0, 0, 0), Make.BEYOND);
        watch(x).finding("none to above the empty", () -> x.copy(0, 0, 1, 1, 0), Make.BEYOND);
        watch(x).finding("none from below 0", () -> x.copy(0, -1, 1, 0, 0), Make.BEYOND);
        watch(x).finding("none to below 0", () -> x.copy(0, 0, 1, -1, 0), Make.BEYOND);
    }

    /** "of another one (perhaps itself) from one on, as if taken ahead: 1." */
    private static void copyAsIfTakenAhead() {
        TwoFliers x = new TwoFliers();
        Make.row(x, 4, 1, 2, 3, 4, 5);
        watch(x).changes("up by one", () -> x.copy(4, 0, 4, 1, 4), 1);
        sees(x, 4, 1, 1, 2, 3, 4);
        watch(x).changes("down by two", () -> x.copy(4, 2, 4, 0, 3), 1);
        sees(x, 4, 2, 3, 4, 3, 4);
        watch(x).same("onto itself", () -> x.copy(4, 0, 4, 0, 5), 1);
        watch(x).changes("up by two", () -> x.copy(4, 0, 4, 2, 3), 1);
        sees(x, 4, 2, 3, 2, 3, 4);
    }

    /** "The mean of a ROW's ints, cut, told by asked(): 1." */
    private static void meanCut() {
        int[][] known = {
            // the mean, then the ints
            {0, 0}, {7, 7}, {LEAST, LEAST}, {MOST, MOST}, {2, 2, 3}, {-2, -2, -3}, {0, 1, -2}, {0, 2, -1}, {0, 1, 1, 0},
            {0, -1, -1, 0}, {1, 1, 1, 1}, {-1, -1, -1, -1}, {0, MOST, LEAST}, {MOST, MOST, MOST}, {LEAST, LEAST, LEAST},
            {MOST - 1, MOST, MOST, MOST - 1}};
        for (int[] k : known) {
            TwoFliers x = new TwoFliers();
            x.row(0, k.length - 1);
            for (int i = 1; i < k.length; i++) {
                x.lay(0, i - 1, k[i]);
            }
            watch(x).asks("mean of " + java.util.Arrays.toString(k), () -> x.mean(0), 1, k[0]);
        }
        for (int v : new int[] {LEAST, MOST}) {
            TwoFliers x = new TwoFliers();
            x.row(5, 40);
            for (int i = 0; i < 40; i++) {
                x.lay(5, i, v);
            }
            watch(x).asks("mean of forty times " + v, () -> x.mean(5), 1, v);
        }
    }

    /** "BAD; NOTHING; NOUGHT." "NOUGHT (shared among none ..)" */
    private static void meanRefused() {
        TwoFliers x = new TwoFliers();
        for (int r : new int[] {-1, 6, LEAST, MOST}) {
            watch(x).bad("mean of row " + r, () -> x.mean(r));
        }
        watch(x).finding("mean of a missing row", () -> x.mean(5), Make.NOTHING);
        x.row(5, 0);
        watch(x).finding("mean of an empty row", () -> x.mean(5), Make.NOUGHT);
        x.row(5, 1);
        watch(x).asks("mean of a row of one 0", () -> x.mean(5), 1, 0);
    }

    /** "TEXTS 0 .. 3": text() BAD below and above. */
    private static void textsThereAre() {
        for (int t = 0; t <= 3; t++) {
            TwoFliers x = new TwoFliers();
            int text = t;
            watch(x).changes("text " + t, () -> x.text(text, 1), 1);
            CHECK.due("text " + t + " is there", x.put(t, 0, 0), 1032);
            CHECK.due("no other one is", x.count(6), 1);
        }
        TwoFliers x = new TwoFliers();
        for (int t : new int[] {-1, 4, LEAST, MOST}) {
            watch(x).bad("text(" + t + ", 0)", () -> x.text(t, 0));
        }
    }

    /** "rows of 0 to 80 bytes"; "A TEXT is there with n blanks: n. BAD: also n above 80; SIZE: below 0." */
    private static void textSizes() {
        for (int n : new int[] {0, 1, 79, 80}) {
            TwoFliers x = new TwoFliers();
            watch(x).changes("text of " + n, () -> x.text(2, n), n);
            for (int i = 0; i < n; i++) {
                CHECK.due("blank " + i + " of " + n, x.put(2, i, 99), 1032);
            }
            watch(x).finding("text of " + n + " has no more", () -> x.put(2, n, 99), Make.BEYOND);
            CHECK.due("anew", x.text(2, 80), 80);
            CHECK.due("blanks again", x.put(2, 0, 99), 1032);
            CHECK.due("blanks to the end", x.put(2, 79, 99), 1032);
        }
        TwoFliers x = new TwoFliers();
        Make.text(x, 1, "a=1");
        for (int n : new int[] {81, 82, MOST}) {
            watch(x).bad("text of " + n, () -> x.text(1, n));
            watch(x).bad("text of " + n + " that is missing", () -> x.text(2, n));
        }
        for (int n : new int[] {-1, -2, LEAST}) {
            watch(x).finding("text of " + n, () -> x.text(1, n), Make.SIZE);
            watch(x).finding("text of " + n + " that is missing", () -> x.text(2, n), Make.SIZE);
        }
        CHECK.due("what was there stays", x.put(1, 2, 50), 1049);
        CHECK.due("no text was made", x.count(6), 1);
    }

    /** "BAD; NOTHING; BEYOND." for put(). */
    private static void putBounds() {
        TwoFliers x = new TwoFliers();
        for (int t : new int[] {-1, 4, LEAST, MOST}) {
            watch(x).bad("put into text " + t, () -> x.put(t, -1, 1));
        }
        watch(x).finding("put into a missing text", () -> x.put(3, -1, 1), Make.NOTHING);
        x.text(3, 80);
        x.text(2, 0);
        for (int i : new int[] {-1, 80, 81, LEAST, MOST}) {
            watch(x).finding("put at " + i, () -> x.put(3, i, 1), Make.BEYOND);
        }
        watch(x).finding("put into an empty text", () -> x.put(2, 0, 1), Make.BEYOND);
        watch(x).changes("put at 0", () -> x.put(3, 0, 1), 1032);
        watch(x).changes("put at 79", () -> x.put(3, 79, 2), 1032);
        CHECK.due("at 0", x.put(3, 0, 1), 1001);
        CHECK.due("at 79", x.put(3, 79, 2), 1002);
    }

    /** "Byte i of a TEXT is v, cut to a byte (-128 .. 127): what it was, and 1000 more." */
    private static void putCutToAByte() {
        int[][] known = {
            {0, 1000}, {127, 1127}, {128, 872}, {129, 873}, {255, 999}, {256, 1000}, {257, 1001}, {-1, 999}, {-128, 872},
            {-129, 1127}, {-256, 1000}, {MOST, 999}, {LEAST, 1000}, {97 + 256, 1097}, {97 - 512, 1097}};
        TwoFliers x = new TwoFliers();
        x.text(0, 3);
        for (int[] k : known) {
            x.put(0, 1, k[0]);
            CHECK.due("was " + k[0], x.put(0, 1, 32), k[1]);
        }
        CHECK.due("ahead of it", x.put(0, 0, 0), 1032);
        CHECK.due("behind it", x.put(0, 2, 0), 1032);
    }
}
