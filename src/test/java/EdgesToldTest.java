import java.util.function.IntSupplier;

/** Promises 41 to 47 at their edges, with what 'Terms' say of answers, FINDINGS and fractions. */
public final class EdgesToldTest {
    private static final Check CHECK = new Check("EdgesToldTest");
    private static final int LEAST = Integer.MIN_VALUE, MOST = Integer.MAX_VALUE;

    public static void main(String[] args) {
        constants();
        zeroBefore();
        askedByEach();
        askedStays();
        askedMayBeNone();
        fractionByEach();
        fractionInLowestTerms();
        countBounds();
        countEmptyAndFull();
        countEachKind();
        findingLatest();
        findingNotByOthers();
        findingsBounds();
        findingsManyTimes();
        digestNew();
        digestFull();
        digestOfParts();
        digestMissingOrEmpty();
        callFiveHundredAndTwelve();
        CHECK.end();
    }

    private static Watch watch(TwoFliers x) {
        return new Watch(CHECK, x);
    }

    /** "BAD = -1, FULL = -2, FINDING = -3, STATE = -4, SPENT = -6, NONE = -9" */
    private static void constants() {
        CHECK.due("BAD", TwoFliers.BAD, -1);
        CHECK.due("FULL", TwoFliers.FULL, -2);
        CHECK.due("FINDING", TwoFliers.FINDING, -3);
        CHECK.due("STATE", TwoFliers.STATE, -4);
        CHECK.due("SPENT", TwoFliers.SPENT, -6);
        CHECK.due("NONE", TwoFliers.NONE, -9);
    }

    /** "0 before" for asked() and upper(), "1 before" for lower(), "(0 before any)" for finding(). */
    private static void zeroBefore() {
        TwoFliers x = new TwoFliers();
        x.row(0, 3);
        x.row(9, 9);
        x.plan(15);
        x.where(4, 0);
        x.count(0);
        CHECK.due("asked()", x.asked(), 0);
        CHECK.due("upper()", x.upper(), 0);
        CHECK.due("lower()", x.lower(), 1);
        CHECK.due("finding()", x.finding(), 0);
        for (int f = 1; f <= 5; f++) {
            CHECK.due("findings(" + f + ")", x.findings(f), 0);
        }
    }

    /** "What the latest lay(), at(), mean(), plan(), far(), told(), near(), sure(), cross(), brought() .. told". */
    private static void askedByEach() {
        TwoFliers x = new TwoFliers();
        Make.row(x, 1, 11, 22);
        x.sign(5, 33, 2, 3);
        CHECK.asked("lay()", x, x.lay(1, 0, 12), 1, 11);
        CHECK.asked("at()", x, x.at(1, 1), 1, 22);
        CHECK.asked("mean()", x, x.mean(1), 1, 17);
        CHECK.asked("plan()", x, x.plan(8), 1, 1);
        CHECK.asked("far()", x, x.far(0, 13), 1, 3);
        CHECK.asked("told()", x, x.told(0, 1), 1, 33);
        CHECK.asked("near()", x, x.near(2), 2, 4);
        CHECK.asked("sure()", x, x.sure(0, 1, 1), 1, 0);
        // East of 33 (x 9, y 2): 34, then 23, 35, 47.
        CHECK.asked("cross()", x, x.cross(1), 4, 23);
        CHECK.asked("brought()", x, x.brought(0, 0), 0, 0);
    }

    /** "that was not refused (nor NONE)": none of these tells by asked(). */
    private static void askedStays() {
        TwoFliers x = new TwoFliers();
        x.row(0, 1);
        x.row(1, 0);
        x.sign(5, 0, 2, 3);
        x.near(2);
        IntSupplier[] refused = {
            () -> x.lay(6, 0, 0), () -> x.lay(2, 0, 0), () -> x.lay(0, 1, 0), () -> x.at(6, 0), () -> x.at(2, 0), () -> x.at(0, 1),
            () -> x.mean(6), () -> x.mean(2), () -> x.mean(1), () -> x.plan(15), () -> x.far(0, 120), () -> x.told(1, 0),
            () -> x.told(0, 5), () -> x.near(6), () -> x.sure(0, 0, 1), () -> x.sure(1, 1, 1), () -> x.cross(0),
            () -> x.brought(120, 0), () -> x.brought(119, 5)};
        for (int i = 0; i < refused.length; i++) {
            CHECK.due("refused, or NONE: " + i, refused[i].getAsInt() < 0 ? 1 : 0, 1);
            CHECK.due("asked() stays behind " + i, x.asked(), 4);
        }
    }

    /** What asked() tells may be NONE itself. */
    private static void askedMayBeNone() {
        TwoFliers x = new TwoFliers();
        Make.story(x, 1, "a=1");
        x.near(2);
        watch(x).asks("plan()", () -> x.plan(2), 1, -9);
        x.near(2);
        watch(x).asks("far()", () -> x.far(7, 7), 0, -9);
        x.near(2);
        watch(x).asks("sure()", () -> x.sure(1, 1, 2), 0, -9);
        x.near(2);
        watch(x).asks("cross()", () -> x.cross(1), 0, -9);
    }

    /** "The upper number of the fraction that was told last", "Its lower number": by each call that tells one. */
    private static void fractionByEach() {
        TwoFliers x = new TwoFliers();
        Make.flight(x, 66, 2);
        Make.story(x, 1, "r0:0=1 r1:0=3");
        x.sign(5, 0, 2, 4);
        // By STORY 1: 8 against 36; by the FLIGHT: all three CELLS are south-east of 0, so all weigh 8.
        CHECK.odds("where()", x, x.where(1, 0), 1, 2, 11);
        CHECK.odds("most()", x, x.most(1), 1, 9, 11);
        CHECK.odds("hour()", x, x.hour(1, 67), 1, 1, 2);
        CHECK.odds("ended()", x, x.ended(1), 1, 1, 1);
        CHECK.odds("falls()", x, x.falls(1, 0, 0), 1, -3, 44);
        CHECK.odds("truly()", x, x.truly(1, 0), 1, 9, 11);
        CHECK.odds("likelier()", x, x.likelier(1, 0), 2, 11, 8);
        CHECK.odds("line()", x, x.line(1, 1, 0), 10, 9, 11);
        CHECK.odds("drag()", x, x.drag(1, 0, 0, 0), 1, 2, 11);
        IntSupplier[] others = {
            () -> x.sure(1, 1, 2), () -> x.turns(1), () -> x.cross(1), () -> x.brought(66, 0), () -> x.mark(0, 5), () -> x.weighs(0, 0),
            () -> x.where(2, 0), () -> x.where(4, 0), () -> x.hour(7, 0), () -> x.lies(1, 0), () -> x.draw(1, 0), () -> x.image(0),
            () -> x.mean(0), () -> x.count(0)};
        for (int i = 0; i < others.length; i++) {
            others[i].getAsInt();
            CHECK.due("upper() stays behind " + i, x.upper(), 2);
            CHECK.due("lower() stays behind " + i, x.lower(), 11);
        }
    }

    /** "in lowest terms, the lower number above 0 (0 by 1)"; "upper() (may be below 0)". */
    private static void fractionInLowestTerms() {
        TwoFliers x = new TwoFliers();
        Make.story(x, 1, "r0:0=90 r1:0=6");
        CHECK.odds("90 by 96", x, x.where(1, 0), 1, 15, 16);
        CHECK.odds("6 by 96", x, x.where(1, 1), 1, 1, 16);
        CHECK.odds("0 by 96", x, x.where(1, 2), 1, 0, 1);
        Make.story(x, 1, "r0:0=90");
        CHECK.odds("90 by 90", x, x.where(1, 0), 1, 1, 1);
        Make.story(x, 1, "r0:0=90 r1:0=6");
        x.sign(4, 0, 0, 12);
        CHECK.odds("less", x, x.falls(1, 0, 0), 1, -15, 16);
        CHECK.odds("more", x, x.falls(1, 0, 1), 1, 15, 16);
        CHECK.odds("neither", x, x.falls(1, 0, 2), 1, 0, 1);
    }

    /** count(): "BAD." */
    private static void countBounds() {
        TwoFliers x = new TwoFliers();
        for (int what : new int[] {-1, 7, LEAST, MOST}) {
            watch(x).bad("count(" + what + ")", () -> x.count(what));
        }
        for (int w = 0; w <= 6; w++) {
            int what = w;
            watch(x).same("count(" + w + ")", () -> x.count(what), 0);
        }
    }

    /** "0 hours of the FLIGHT, 1 STORIES by TEXTS, 2 SIGNS, 3 VOICES .., 4 UNDONE ones, 5 ROWS, 6 TEXTS that are there." */
    private static void countEmptyAndFull() {
        TwoFliers x = new TwoFliers();
        Make.flight(x, 0, 0, 0, 0, 0, 0, 0);
        for (int k = 1; k <= 3; k++) {
            Make.story(x, k, "");
        }
        for (int e = 0; e < 12; e++) {
            x.sign(5, 0, 0, 0);
            x.undo(e, 1);
        }
        for (int r = 0; r <= 5; r++) {
            x.row(r, 0);
        }
        for (int t = 0; t <= 3; t++) {
            x.text(t, 0);
        }
        int[] due = {6, 3, 12, 12, 12, 6, 4};
        for (int w = 0; w <= 6; w++) {
            int what = w;
            watch(x).same("count(" + w + ") of the most", () -> x.count(what), due[w]);
        }
        x.tear(3);
        CHECK.due("one row less", x.count(5), 5);
        x.undo(3, 0);
        CHECK.due("one UNDONE less", x.count(4), 11);
        CHECK.due("as many VOICES", x.count(3), 12);
    }

    /** "3 VOICES (MADE, too)": no other KIND. */
    private static void countEachKind() {
        int[] due = {0, 0, 0, 0, 0, 1, 1, 0};
        for (int kind = 0; kind <= 7; kind++) {
            TwoFliers x = new TwoFliers();
            x.sign(kind, 0, 0, 0);
            CHECK.due("VOICES of kind " + kind, x.count(3), due[kind]);
            CHECK.due("SIGNS of kind " + kind, x.count(2), 1);
            CHECK.due("UNDONE of kind " + kind, x.count(4), 0);
            x.undo(0, 1);
            CHECK.due("UNDONE of kind " + kind, x.count(4), 1);
        }
    }

    /** "The latest FINDING": 1 NOTHING, 2 BEYOND, 3 UNLIKE, 4 NOUGHT, 5 SIZE. */
    private static void findingLatest() {
        TwoFliers x = new TwoFliers();
        x.row(1, 0);
        x.sign(0, 0, 0, 0);
        watch(x).finding("NOTHING", () -> x.tear(0), 1);
        watch(x).finding("BEYOND", () -> x.at(1, 0), 2);
        watch(x).finding("UNLIKE", () -> x.mark(0, 1), 3);
        watch(x).finding("NOUGHT", () -> x.mean(1), 4);
        watch(x).finding("SIZE", () -> x.row(1, -1), 5);
        watch(x).finding("NOTHING again", () -> x.fault(0), 1);
        CHECK.due("NOTHING twice", x.findings(1), 2);
    }

    /** BAD, FULL, STATE, SPENT, NONE and what is answered are no FINDING. */
    private static void findingNotByOthers() {
        TwoFliers x = new TwoFliers();
        Make.text(x, 0, "x");
        for (int e = 0; e < 12; e++) {
            x.sign(6, 0, 0, 0);
        }
        watch(x).same("BAD", () -> x.row(6, 0), TwoFliers.BAD);
        watch(x).same("FULL", () -> x.sign(0, 0, 0, 0), TwoFliers.FULL);
        watch(x).same("STATE", () -> x.story(1, 0), TwoFliers.STATE);
        watch(x).same("SPENT", () -> x.most(0), TwoFliers.SPENT);
        watch(x).same("NONE", () -> x.brought(119, 5), TwoFliers.NONE);
        watch(x).same("a FAULT", () -> x.fault(0), 0);
        CHECK.due("none yet", x.finding(), 0);
    }

    /** findings(): "a FINDING (1 .. 5)"; "BAD." */
    private static void findingsBounds() {
        TwoFliers x = new TwoFliers();
        for (int f : new int[] {0, -1, 6, LEAST, MOST}) {
            watch(x).bad("findings(" + f + ")", () -> x.findings(f));
        }
        for (int finding = 1; finding <= 5; finding++) {
            int f = finding;
            watch(x).same("findings(" + f + ")", () -> x.findings(f), 0);
        }
    }

    /** "How often a FINDING .. was answered." */
    private static void findingsManyTimes() {
        TwoFliers x = new TwoFliers();
        for (int n = 1; n <= 200; n++) {
            x.row(0, -n);
            CHECK.due("SIZE", x.findings(5), n);
        }
        for (int f = 1; f <= 4; f++) {
            CHECK.due("findings(" + f + ")", x.findings(f), 0);
        }
    }

    /** The digest by the calls of the face and by what STORIES 1 .. 3, ROWS and TEXTS hold (null: missing). */
    private static long digestOf(TwoFliers x, int[][] stories, int[][] rows, int[][] texts) {
        long h = 17;
        for (int what = 0; what <= 6; what++) {
            h = 31 * h + x.count(what);
        }
        for (int what = 0; what <= 14; what++) {
            x.plan(what);
            h = 31 * h + x.asked();
        }
        for (int[] story : stories) {
            h = story == null ? 31 * h - 1 : h;
            for (int cell = 0; cell < 120 && story != null; cell++) {
                h = 31 * h + story[cell];
            }
        }
        int signs = x.count(2);
        for (int e = 0; e < signs; e++) {
            for (int what = 0; what <= 4; what++) {
                x.told(e, what);
                h = 31 * h + x.asked();
            }
        }
        return digestOfRows(digestOfRows(h, rows), texts);
    }

    private static long digestOfRows(long start, int[][] rows) {
        long h = start;
        for (int[] row : rows) {
            h = 31 * h + (row == null ? -1 : row.length);
            for (int i = 0; row != null && i < row.length; i++) {
                h = 31 * h + row[i];
            }
        }
        return h;
    }

    /** digest() of a new object. */
    private static void digestNew() {
        TwoFliers x = new TwoFliers();
        CHECK.due("new", x.digest(), digestOf(new TwoFliers(), new int[3][], new int[6][], new int[4][]));
        // By hand: seven 0, then 0, 0, six NONE, 1, six NONE, then thirteen -1.
        long h = 17;
        int[] v = {0, 0, 0, 0, 0, 0, 0, 0, 0, -9, -9, -9, -9, -9, -9, 1, -9, -9, -9, -9, -9, -9};
        for (int w : v) {
            h = 31 * h + w;
        }
        for (int i = 0; i < 13; i++) {
            h = 31 * h - 1;
        }
        CHECK.due("new, by hand", x.digest(), h);
    }

    /** digest() of the most that there can be: "asked() stays", and h goes around. */
    private static void digestFull() {
        TwoFliers x = new TwoFliers();
        Make.flight(x, 119, 7, 7, 7, 7, 7, 7);
        Make.ends(x, 9, 9, 9, 9, 9, 9, 9);
        Make.story(x, 1, "a=99");
        Make.story(x, 2, "r60:0=98 r119:0=7");
        Make.story(x, 3, "");
        int[][] stories = new int[3][120];
        java.util.Arrays.fill(stories[0], 99);
        stories[1][60] = 98;
        stories[1][119] = 7;
        for (int e = 0; e < 12; e++) {
            x.sign(e % 8, 5, 5, 5);
            x.undo(e, e / 3 % 2);
        }
        int[][] rows = new int[6][40];
        for (int r = 0; r < 6; r++) {
            x.row(r, 40);
            rows[r][0] = LEAST + r;
            rows[r][39] = MOST - r;
            x.lay(r, 0, LEAST + r);
            x.lay(r, 39, MOST - r);
        }
        int[][] texts = new int[4][80];
        for (int t = 0; t < 4; t++) {
            x.text(t, 80);
            java.util.Arrays.fill(texts[t], 32);
            texts[t][0] = -128 + t;
            texts[t][79] = 127 - t;
            x.put(t, 0, -128 + t);
            x.put(t, 79, 127 - t);
        }
        x.near(2);
        x.where(1, 0);
        long got = x.digest();
        CHECK.due("asked() stays", x.asked(), 4);
        CHECK.due("upper() stays", x.upper(), 0);
        CHECK.due("finding() stays", x.finding(), 0);
        CHECK.due("full", got, digestOf(x, stories, rows, texts));
    }

    /** Each part that digest() names, changed alone, changes it; what was told does not. */
    private static void digestOfParts() {
        TwoFliers x = new TwoFliers();
        Make.flight(x, 5, 1);
        Make.story(x, 1, "a=1");
        x.sign(5, 1, 2, 3);
        x.text(3, 1);
        Make.row(x, 1, 0, 5, 9);
        long was = x.digest();
        Runnable[] parts = {
            () -> x.course(0, 2), () -> x.undo(0, 1), () -> x.put(3, 0, 33), () -> x.lay(1, 2, 8), () -> x.row(5, 0),
            () -> x.text(2, 0), () -> x.story(1, 2), () -> x.story(3, 2), () -> x.sign(0, 0, 0, 0), () -> x.tear(5)};
        for (int i = 0; i < parts.length; i++) {
            parts[i].run();
            CHECK.due("part " + i + " changes it", x.digest() != was ? 1 : 0, 1);
            was = x.digest();
        }
        x.near(0);
        x.where(0, 5);
        x.tear(5);
        CHECK.due("what was told does not", x.digest(), was);
    }

    /** "its size (-1: missing)": a missing ROW or TEXT is not an empty one. */
    private static void digestMissingOrEmpty() {
        int[][] none = new int[6][];
        for (int r = 0; r < 6; r++) {
            TwoFliers x = new TwoFliers();
            int[][] rows = none.clone();
            rows[r] = new int[0];
            x.row(r, 0);
            CHECK.due("empty row " + r, x.digest(), digestOf(x, new int[3][], rows, new int[4][]));
            rows[r] = new int[] {0};
            x.row(r, 1);
            CHECK.due("row " + r + " of one 0", x.digest(), digestOf(x, new int[3][], rows, new int[4][]));
            x.tear(r);
            CHECK.due("torn row " + r, x.digest(), digestOf(x, new int[3][], none, new int[4][]));
        }
        for (int t = 0; t < 4; t++) {
            TwoFliers x = new TwoFliers();
            int[][] texts = new int[4][];
            texts[t] = new int[0];
            x.text(t, 0);
            CHECK.due("empty text " + t, x.digest(), digestOf(x, new int[3][], none, texts));
            texts[t] = new int[] {32, -1};
            x.text(t, 2);
            x.put(t, 1, 255);
            CHECK.due("text " + t + " of two", x.digest(), digestOf(x, new int[3][], none, texts));
        }
        for (int k = 1; k <= 3; k++) {
            TwoFliers x = new TwoFliers();
            int[][] texts = {{}, null, null, null};
            int[][] stories = new int[3][];
            stories[k - 1] = new int[120];
            Make.story(x, k, "");
            CHECK.due("story " + k + " that weighs nothing", x.digest(), digestOf(x, stories, none, texts));
        }
    }

    /** "An object is used for at most 512 calls after it has been made": the last of them still answers. */
    private static void callFiveHundredAndTwelve() {
        TwoFliers x = new TwoFliers();
        for (int n = 0; n < 510; n++) {
            x.at(0, n);
        }
        CHECK.due("call 511", x.findings(1), 510);
        CHECK.due("call 512", x.most(0), 0);
    }
}
