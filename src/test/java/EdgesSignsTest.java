/** Promises 18 to 24 at their edges, with what 'Terms' say of KINDS, UNDONE ones and WEIGHS. */
public final class EdgesSignsTest {
    private static final Check CHECK = new Check("EdgesSignsTest");
    private static final int LEAST = Integer.MIN_VALUE, MOST = Integer.MAX_VALUE;
    /** By KIND: the most of a, b, c; -1: not looked at. */
    private static final int[][] BOUNDS = {
        {-1, -1, -1}, {6, 119, 5}, {6, 119, 5}, {6, -1, -1}, {119, 119, 12}, {119, 7, 12}, {119, 7, 12}, {119, 9, 12}};

    public static void main(String[] args) {
        kinds();
        numbersOfKinds();
        notLookedAt();
        twelveAtMostEver();
        signsBounds();
        signsBySizes();
        signsFull();
        signsUnlike();
        signsOrder();
        undoBounds();
        toldBounds();
        markBounds();
        markOfKinds();
        markCounts();
        weighsBounds();
        heardWeighs();
        fixedWeighs();
        burntWeighs();
        lookedWeighs();
        voiceWeighs();
        foundWeighs();
        near();
        CHECK.end();
    }

    private static Watch watch(TwoFliers x) {
        return new Watch(CHECK, x);
    }

    private static void tells(TwoFliers x, int e, int... numbers) {
        for (int what = 0; what < numbers.length; what++) {
            CHECK.asked("told(" + e + ", " + what + ")", x, x.told(e, what), 1, numbers[what]);
        }
    }

    /** "A SIGN of a KIND (0 .. 7): its number." */
    private static void kinds() {
        TwoFliers x = new TwoFliers();
        for (int kind : new int[] {-1, 8, LEAST, MOST}) {
            watch(x).bad("kind " + kind, () -> x.sign(kind, 0, 0, 0));
        }
        for (int k = 0; k <= 7; k++) {
            int kind = k;
            watch(x).changes("kind " + k, () -> x.sign(kind, 0, 0, 0), k);
            CHECK.due("signs", x.count(2), k + 1);
        }
    }

    /** "HEARD: a the hour (0 .. 6), b EARS, c LOUD; .. FOUND: a CELL, b how far (0 .. 9), c p": each at both ends. */
    private static void numbersOfKinds() {
        for (int kind = 1; kind <= 7; kind++) {
            for (int place = 0; place < 3; place++) {
                if (BOUNDS[kind][place] >= 0) {
                    numberOfKind(kind, place, BOUNDS[kind][place]);
                }
            }
        }
    }

    private static void numberOfKind(int kind, int place, int most) {
        TwoFliers x = new TwoFliers();
        int[] v = new int[3];
        for (int value : new int[] {-1, most + 1, LEAST, MOST}) {
            v[place] = value;
            watch(x).bad("kind " + kind + " number " + place + " is " + value, () -> x.sign(kind, v[0], v[1], v[2]));
        }
        int e = 0;
        for (int value : new int[] {0, most}) {
            v[place] = value;
            int number = e;
            watch(x).changes("kind " + kind + " number " + place + " is " + value, () -> x.sign(kind, v[0], v[1], v[2]), number);
            tells(x, e, kind, v[0], v[1], v[2], 0);
            e++;
        }
    }

    /** "(others not looked at)"; told(): "(0: not looked at)". */
    private static void notLookedAt() {
        for (int value : new int[] {-1, 1, 120, LEAST, MOST}) {
            TwoFliers x = new TwoFliers();
            watch(x).changes("a note", () -> x.sign(0, value, value, value), 0);
            tells(x, 0, 0, 0, 0, 0, 0);
            watch(x).changes("fuel", () -> x.sign(3, 6, value, value), 1);
            tells(x, 1, 3, 6, 0, 0, 0);
            Make.row(x, 0, 0, value, value, value, 3, 5, value, value);
            watch(x).changes("both by a row", () -> x.signs(0), 2);
            tells(x, 2, 0, 0, 0, 0, 0);
            tells(x, 3, 3, 5, 0, 0, 0);
        }
    }

    /** "SIGNS 0, 1, .. (12 at most ever)"; "BAD; FULL." */
    private static void twelveAtMostEver() {
        TwoFliers x = new TwoFliers();
        for (int e = 0; e < 12; e++) {
            CHECK.due("sign " + e, x.sign(e % 8, 0, 0, 0), e);
        }
        for (int k = 0; k <= 7; k++) {
            int kind = k;
            watch(x).same("FULL for kind " + k, () -> x.sign(kind, 0, 0, 0), TwoFliers.FULL);
        }
        watch(x).bad("BAD ahead of FULL", () -> x.sign(8, 0, 0, 0));
        watch(x).bad("BAD ahead of FULL by a number", () -> x.sign(1, 7, 0, 0));
        for (int e = 0; e < 12; e++) {
            x.undo(e, 1);
        }
        watch(x).same("FULL, though all are UNDONE", () -> x.sign(0, 0, 0, 0), TwoFliers.FULL);
        x.row(0, 0);
        x.flight(5, 0);
        watch(x).same("FULL, though the flight is anew", () -> x.sign(0, 0, 0, 0), TwoFliers.FULL);
        CHECK.due("twelve", x.count(2), 12);
    }

    /** signs(): "BAD; NOTHING". */
    private static void signsBounds() {
        TwoFliers x = new TwoFliers();
        for (int r : new int[] {-1, 6, LEAST, MOST}) {
            watch(x).bad("signs by row " + r, () -> x.signs(r));
        }
        for (int r = 0; r <= 5; r++) {
            int row = r;
            watch(x).finding("signs by missing row " + r, () -> x.signs(row), Make.NOTHING);
        }
        x.row(5, 4);
        watch(x).changes("signs by row 5", () -> x.signs(5), 1);
    }

    /** "SIGNS by a ROW of fours (KIND, a, b, c): how many."; "SIZE: not by fours". */
    private static void signsBySizes() {
        for (int size = 0; size <= 40; size++) {
            TwoFliers x = new TwoFliers();
            x.row(0, size);
            if (size % 4 == 0) {
                watch(x).changes("row of " + size, () -> x.signs(0), size / 4);
                CHECK.due("signs by " + size, x.count(2), size / 4);
            } else {
                watch(x).finding("row of " + size, () -> x.signs(0), Make.SIZE);
            }
        }
        TwoFliers x = new TwoFliers();
        Make.row(x, 0, 7, 119, 9, 12, 1, 6, 118, 5, 5, 1, 2, 3);
        CHECK.due("three", x.signs(0), 3);
        tells(x, 0, 7, 119, 9, 12, 0);
        tells(x, 1, 1, 6, 118, 5, 0);
        tells(x, 2, 5, 1, 2, 3, 0);
    }

    /** "FULL: not all would go"; "all or none". */
    private static void signsFull() {
        for (int have = 0; have <= 12; have++) {
            TwoFliers x = new TwoFliers();
            for (int e = 0; e < have; e++) {
                x.sign(5, 0, 0, 0);
            }
            for (int more = 10; more >= 0; more--) {
                x.row(0, 4 * more);
                if (have + more > 12) {
                    watch(x).same(more + " to " + have, () -> x.signs(0), TwoFliers.FULL);
                }
            }
            int fits = Math.min(10, 12 - have);
            x.row(0, 4 * fits);
            watch(x).changes(fits + " to " + have, () -> x.signs(0), fits);
            CHECK.due("signs", x.count(2), have + fits);
        }
    }

    /** "UNLIKE: a number": at each place of the first and of the last four; "all or none". */
    private static void signsUnlike() {
        for (int kind = 1; kind <= 7; kind++) {
            for (int place = 0; place < 3; place++) {
                int most = BOUNDS[kind][place];
                for (int value : new int[] {-1, most + 1, LEAST, MOST}) {
                    if (most >= 0) {
                        signUnlike(kind, place, value);
                    }
                }
            }
        }
        TwoFliers x = new TwoFliers();
        for (int kind : new int[] {-1, 8, LEAST, MOST}) {
            Make.row(x, 0, 0, 0, 0, 0, kind, 0, 0, 0);
            watch(x).finding("kind " + kind, () -> x.signs(0), Make.UNLIKE);
        }
    }

    private static void signUnlike(int kind, int place, int value) {
        for (int four = 0; four < 2; four++) {
            TwoFliers x = new TwoFliers();
            Make.row(x, 0, kind, 0, 0, 0, kind, 0, 0, 0);
            x.lay(0, 4 * four + 1 + place, value);
            String what = "kind " + kind + " number " + place + " of four " + four + " is " + value;
            watch(x).finding(what, () -> x.signs(0), Make.UNLIKE);
            CHECK.due(what + ": none went", x.count(2), 0);
        }
    }

    /** "BAD; NOTHING; SIZE: not by fours; FULL: not all would go; UNLIKE: a number. (In this order ..)" */
    private static void signsOrder() {
        TwoFliers x = new TwoFliers();
        for (int e = 0; e < 12; e++) {
            x.sign(0, 0, 0, 0);
        }
        watch(x).bad("BAD ahead of NOTHING", () -> x.signs(6));
        watch(x).finding("NOTHING, though full", () -> x.signs(0), Make.NOTHING);
        Make.row(x, 0, 8, 8, 8, 8, 8);
        watch(x).finding("SIZE ahead of FULL and UNLIKE", () -> x.signs(0), Make.SIZE);
        Make.row(x, 0, 8, 8, 8, 8);
        watch(x).same("FULL ahead of UNLIKE", () -> x.signs(0), TwoFliers.FULL);
        x.row(0, 0);
        watch(x).same("none go, though full", () -> x.signs(0), 0);
    }

    /** "A SIGN is UNDONE (1), or not (0): what it was. BAD." */
    private static void undoBounds() {
        TwoFliers x = new TwoFliers();
        for (int e : new int[] {-1, 0, 11, 12, LEAST, MOST}) {
            watch(x).bad("undo " + e + " of none", () -> x.undo(e, 1));
        }
        x.sign(5, 1, 2, 3);
        x.sign(0, 0, 0, 0);
        for (int e : new int[] {-1, 2, LEAST, MOST}) {
            watch(x).bad("undo " + e + " of two", () -> x.undo(e, 0));
        }
        for (int is : new int[] {-1, 2, LEAST, MOST}) {
            watch(x).bad("is " + is, () -> x.undo(0, is));
        }
        watch(x).same("it was not", () -> x.undo(1, 0), 0);
        watch(x).changes("a note, too", () -> x.undo(1, 1), 0);
        watch(x).same("it was", () -> x.undo(1, 1), 1);
        CHECK.due("one UNDONE", x.count(4), 1);
        tells(x, 0, 5, 1, 2, 3, 0);
        tells(x, 1, 0, 0, 0, 0, 1);
        watch(x).changes("not any more", () -> x.undo(1, 0), 1);
        CHECK.due("none UNDONE", x.count(4), 0);
    }

    /** "0 its KIND, 1 a, 2 b, 3 c .., 4 whether UNDONE, told by asked(): 1. BAD." */
    private static void toldBounds() {
        TwoFliers x = new TwoFliers();
        for (int e : new int[] {-1, 0, LEAST, MOST}) {
            watch(x).bad("told of " + e, () -> x.told(e, 0));
        }
        x.sign(7, 118, 9, 12);
        for (int what : new int[] {-1, 5, LEAST, MOST}) {
            watch(x).bad("told " + what, () -> x.told(0, what));
        }
        watch(x).bad("told of 1", () -> x.told(1, 0));
        int[] due = {7, 118, 9, 12, 0};
        for (int w = 0; w <= 4; w++) {
            int what = w;
            watch(x).asks("told " + w, () -> x.told(0, what), 1, due[w]);
        }
        x.undo(0, 1);
        watch(x).asks("its KIND stays", () -> x.told(0, 0), 1, 7);
        watch(x).asks("UNDONE", () -> x.told(0, 4), 1, 1);
    }

    /** mark(): "BAD: also KIND 0; UNLIKE." */
    private static void markBounds() {
        TwoFliers x = new TwoFliers();
        for (int e : new int[] {-1, 0, LEAST, MOST}) {
            watch(x).bad("mark of " + e, () -> x.mark(e, 1));
        }
        x.sign(3, 6, 0, 0);
        for (int kind : new int[] {-1, 0, 8, LEAST, MOST}) {
            watch(x).bad("kind " + kind, () -> x.mark(0, kind));
        }
        watch(x).bad("BAD ahead of UNLIKE", () -> x.mark(1, 4));
        watch(x).same("fuel", () -> x.mark(0, 3), 6);
    }

    /** "What a SIGN that IS of a KIND tells": MADE is a VOICE, a VOICE is not MADE, a note is of none. */
    private static void markOfKinds() {
        for (int sign = 0; sign <= 7; sign++) {
            TwoFliers x = new TwoFliers();
            x.sign(sign, 0, 0, 0);
            for (int k = 1; k <= 7; k++) {
                int kind = k;
                if (k == sign || sign == 6 && k == 5) {
                    CHECK.due("a " + sign + " is a " + k, x.mark(0, k) >= 0 ? 1 : 0, 1);
                } else {
                    watch(x).finding("a " + sign + " is no " + k, () -> x.mark(0, kind), Make.UNLIKE);
                }
            }
        }
    }

    private static void mark(int kind, int a, int b, int c, int asKind, int want) {
        TwoFliers x = new TwoFliers();
        x.sign(kind, a, b, c);
        watch(x).same("mark of " + kind + ", " + a + ", " + b + ", " + c, () -> x.mark(0, asKind), want);
    }

    /** What each KIND tells, at the ends of its numbers. */
    private static void markCounts() {
        int[] leastHeard = {4, 3, 2, 1, 0, 0};
        for (int loud = 0; loud <= 5; loud++) {
            mark(1, 6, 119, loud, 1, leastHeard[loud]);
            mark(1, 0, 66, loud, 1, leastHeard[loud]);
        }
        mark(2, 0, 0, 0, 2, 1);
        mark(2, 0, 0, 5, 2, 36);
        mark(2, 6, 119, 1, 2, 4);
        mark(2, 6, 108, 1, 2, 4);
        mark(2, 6, 11, 1, 2, 4);
        mark(2, 0, 66, 1, 2, 9);
        mark(2, 0, 66, 5, 2, 110);
        mark(3, 0, 0, 0, 3, 0);
        mark(3, 6, 0, 0, 3, 6);
        mark(4, 0, 0, 0, 4, 1);
        mark(4, 0, 119, 12, 4, 120);
        mark(4, 119, 0, 0, 4, 120);
        mark(4, 11, 108, 1, 4, 120);
        mark(4, 13, 2, 5, 4, 4);
        mark(5, 0, 7, 12, 5, 7);
        mark(5, 0, 0, 12, 5, 0);
        mark(6, 0, 7, 12, 5, 7);
        mark(6, 0, 7, 12, 6, 12);
        mark(6, 0, 7, 0, 6, 0);
        mark(7, 0, 0, 12, 7, 1);
        mark(7, 0, 9, 1, 7, 100);
        mark(7, 119, 1, 12, 7, 4);
        mark(7, 108, 1, 12, 7, 4);
        mark(7, 66, 9, 12, 7, 120);
        mark(7, 66, 1, 1, 7, 9);
        // Theirs by none: all CELLS weigh 12.
        mark(7, 66, 1, 0, 7, 120);
    }

    /** weighs(): "by a CELL (BURNT: by an hour 0 .. 6; UNDONE ones as if they were not). BAD." */
    private static void weighsBounds() {
        TwoFliers x = new TwoFliers();
        for (int e : new int[] {-1, 0, LEAST, MOST}) {
            watch(x).bad("weighs of " + e, () -> x.weighs(e, 0));
        }
        for (int kind = 0; kind <= 7; kind++) {
            placesOfKind(kind, kind == 3 ? 6 : 119);
        }
    }

    private static void placesOfKind(int kind, int last) {
        TwoFliers x = new TwoFliers();
        x.sign(kind, 0, 0, 0);
        for (int undone = 0; undone <= 1; undone++) {
            x.undo(0, undone);
            for (int cell : new int[] {-1, last + 1, LEAST, MOST}) {
                watch(x).bad("kind " + kind + " at " + cell, () -> x.weighs(0, cell));
            }
            CHECK.due("kind " + kind + " at 0", x.weighs(0, 0) >= 0 ? 1 : 0, 1);
            CHECK.due("kind " + kind + " at " + last, x.weighs(0, last) >= 0 ? 1 : 0, 1);
        }
        watch(x).bad("weighs of 1", () -> x.weighs(1, 0));
    }

    private static void weighs(int kind, int a, int b, int c, int... due) {
        for (int undone = 0; undone <= 1; undone++) {
            TwoFliers x = new TwoFliers();
            x.sign(kind, a, b, c);
            x.undo(0, undone);
            for (int i = 0; i < due.length; i += 2) {
                int place = due[i];
                String what = "kind " + kind + ", " + a + ", " + b + ", " + c + " weighs(" + place + ")";
                watch(x).same(what, () -> x.weighs(0, place), due[i + 1]);
            }
        }
    }

    /** "off is how far LOUD is from 5 less FAR (0 at least): 0: 12, 1: 8, 2: 4, 3: 1, else 0." */
    private static void heardWeighs() {
        int[] byOff = {12, 8, 4, 1, 0, 0};
        for (int loud = 0; loud <= 5; loud++) {
            for (int far = 0; far <= 11; far++) {
                int due = far <= 5 ? 5 - far : 0;
                weighs(1, 3, 60, loud, 60 + far, byOff[Math.abs(loud - due)]);
            }
        }
    }

    /** "FIXED: FAR no more than SLIP: 12; no more than 2 SLIPS and 1: 4; else 1." */
    private static void fixedWeighs() {
        weighs(2, 0, 60, 0, 60, 12, 61, 4, 62, 1, 71, 1);
        weighs(2, 0, 60, 1, 61, 12, 62, 4, 63, 4, 64, 1, 71, 1);
        weighs(2, 0, 60, 2, 62, 12, 63, 4, 65, 4, 66, 1);
        weighs(2, 0, 60, 3, 63, 12, 64, 4, 67, 4, 68, 1);
        weighs(2, 0, 60, 4, 64, 12, 65, 4, 69, 4, 70, 1);
        weighs(2, 0, 60, 5, 65, 12, 66, 4, 71, 4, 119, 4, 11, 4);
    }

    /** "BURNT (by the hour at which it ends): as far as off 0: 12, 1: 6, 2: 2, else 0." */
    private static void burntWeighs() {
        weighs(3, 0, 0, 0, 0, 12, 1, 6, 2, 2, 3, 0, 6, 0);
        weighs(3, 3, 0, 0, 0, 0, 1, 2, 2, 6, 3, 12, 4, 6, 5, 2, 6, 0);
        weighs(3, 6, 0, 0, 6, 12, 5, 6, 4, 2, 3, 0, 0, 0);
    }

    /** "LOOKED: in it (x and y both between the corners', these too) 12 less k; else 12." "both corners". */
    private static void lookedWeighs() {
        int[][] corners = {{26, 52}, {52, 26}, {28, 50}, {50, 28}};
        for (int[] c : corners) {
            // From x 2, y 2 to x 4, y 4, whichever two corners are told.
            weighs(4, c[0], c[1], 5, 26, 7, 28, 7, 50, 7, 52, 7, 39, 7, 25, 12, 29, 12, 49, 12, 53, 12, 14, 12, 16, 12, 62, 12,
                64, 12, 27, 7, 38, 7, 40, 7, 51, 7, 13, 12, 65, 12);
        }
        weighs(4, 60, 60, 12, 60, 0, 61, 12, 48, 12, 72, 12, 59, 12);
        weighs(4, 60, 60, 0, 60, 12, 61, 12);
        weighs(4, 0, 119, 1, 0, 11, 119, 11, 60, 11, 11, 11, 108, 11);
        weighs(4, 0, 11, 12, 0, 0, 11, 0, 12, 12, 23, 12);
        weighs(4, 0, 108, 12, 0, 0, 108, 0, 1, 12, 107, 12);
    }

    /** "VOICE: on that SIDE of EARS 12; else 12 less p. MADE, a note: 12." */
    private static void voiceWeighs() {
        weighs(5, 65, 2, 12, 66, 12, 79, 12, 55, 12, 78, 0, 54, 0, 92, 0, 44, 0, 65, 0, 64, 0);
        weighs(5, 65, 3, 1, 78, 12, 79, 11, 65, 11, 52, 11);
        weighs(5, 65, 0, 0, 53, 12, 77, 12, 65, 12);
        weighs(5, 0, 0, 7, 0, 5, 1, 5, 119, 5);
        weighs(6, 65, 2, 12, 66, 12, 65, 12, 64, 12, 0, 12);
        weighs(0, 65, 2, 12, 66, 12, 65, 12, 0, 12, 119, 12);
    }

    /** "FOUND: FAR no more than b 12; else 12 less p." */
    private static void foundWeighs() {
        weighs(7, 60, 0, 12, 60, 12, 61, 0, 48, 0);
        weighs(7, 60, 1, 11, 61, 12, 73, 12, 62, 1, 84, 1);
        weighs(7, 60, 9, 5, 69, 12, 70, 7, 71, 7);
        weighs(7, 60, 9, 0, 69, 12, 70, 12);
    }

    /** "How near by LOUD (0 .. 5): the least FAR ..; the greatest (11 at most) by asked(). BAD." */
    private static void near() {
        TwoFliers x = new TwoFliers();
        for (int loud : new int[] {-1, 6, LEAST, MOST}) {
            watch(x).bad("near(" + loud + ")", () -> x.near(loud));
        }
        int[][] due = {{4, 11}, {3, 11}, {2, 4}, {1, 3}, {0, 2}, {0, 1}};
        for (int l = 0; l <= 5; l++) {
            int loud = l;
            watch(x).asks("near(" + l + ")", () -> x.near(loud), due[l][0], due[l][1]);
        }
    }
}
