/** Promises 14 to 16 at their edges, with what 'Terms' say of STORIES by TEXTS and of a FAULT. */
public final class EdgesStoryTest {
    private static final Check CHECK = new Check("EdgesStoryTest");
    private static final int LEAST = Integer.MIN_VALUE, MOST = Integer.MAX_VALUE, NONE = TwoFliers.NONE;

    public static void main(String[] args) {
        faultRefused();
        endsTooEarly();
        wrongSignAtEachPlace();
        blanksWithin();
        blanksAround();
        everyByteAhead();
        everyByteWithin();
        cellsOutOfThese();
        figuresOfCells();
        sidesThatAreNone();
        figuresOfWeights();
        firstFaultCounts();
        emptyAndFull();
        storyBounds();
        storyOrder();
        storyAnew();
        liesBounds();
        rounds();
        lines();
        lastToldCounts();
        storyZeroIsTheFlight();
        CHECK.end();
    }

    private static Watch watch(TwoFliers x) {
        return new Watch(CHECK, x);
    }

    /** The FAULT of a TEXT; a STORY by it is STATE if there is one, and then it is missing still. */
    private static void fault(String text, int want) {
        TwoFliers x = new TwoFliers();
        Make.text(x, 2, text);
        x.near(2);
        watch(x).same("fault of '" + text + "'", () -> x.fault(2), want);
        if (want == NONE) {
            CHECK.due("story of '" + text + "'", x.story(3, 2) >= 0 ? 1 : 0, 1);
        } else {
            watch(x).same("story of '" + text + "'", () -> x.story(3, 2), TwoFliers.STATE);
        }
        CHECK.due("stories by '" + text + "'", x.count(1), want == NONE ? 1 : 0);
    }

    private static void items(String text, int want) {
        TwoFliers x = new TwoFliers();
        Make.text(x, 0, text);
        watch(x).changes("story of '" + text + "'", () -> x.story(1, 0), want);
    }

    /** fault(): "BAD; NOTHING." */
    private static void faultRefused() {
        TwoFliers x = new TwoFliers();
        for (int t : new int[] {-1, 4, LEAST, MOST}) {
            watch(x).bad("fault of text " + t, () -> x.fault(t));
        }
        for (int t = 0; t <= 3; t++) {
            int text = t;
            watch(x).finding("fault of missing text " + t, () -> x.fault(text), Make.NOTHING);
            x.text(t, 0);
            watch(x).same("fault of empty text " + t, () -> x.fault(text), NONE);
        }
    }

    /** "(.. the TEXT's size, if its end comes too early)" */
    private static void endsTooEarly() {
        for (String item : new String[] {"r5:3=7", "r119:9=7", "l5:3=7", "l119:7=7", "a=7"}) {
            for (int n = 1; n < item.length(); n++) {
                fault(item.substring(0, n), n);
                fault("  a=1 " + item.substring(0, n), 6 + n);
            }
            fault(item, NONE);
            fault(item + "5", NONE);
        }
        fault("r12", 3);
        fault("r1", 2);
        fault("l11", 3);
    }

    /** "A FAULT is the first place at which it can't go on so". */
    private static void wrongSignAtEachPlace() {
        for (String item : new String[] {"r119:9=99", "l108:7=10", "a=42"}) {
            for (int place = 0; place < item.length(); place++) {
                fault(item.substring(0, place) + "x" + item.substring(place + 1), place);
                fault("   " + item.substring(0, place) + "x" + item.substring(place + 1), place + 3);
            }
            fault(item + "x", item.length());
            fault(item + " x", item.length() + 1);
            fault(item + ":", item.length());
            fault(item + "=", item.length());
        }
    }

    /** "blanks (32) .. none within items". */
    private static void blanksWithin() {
        fault("r 9:9=9", 1);
        fault("r1 19:9=9", 2);
        fault("r119 :9=9", 4);
        fault("r119: 9=9", 5);
        fault("r119:9 =9", 6);
        fault("r119:9= 9", 7);
        fault("r119:9=9 9", 9);
        fault("l 9:7=9", 1);
        fault("l9 :7=9", 2);
        fault("l9: 7=9", 3);
        fault("l9:7 =9", 4);
        fault("l9:7= 9", 5);
        fault("a =9", 1);
        fault("a= 9", 2);
        fault("a=9 9", 4);
    }

    /** "blanks (32) ahead, between, behind as many as wanted": none, too. */
    private static void blanksAround() {
        items("a=1", 1);
        items(" a=1", 1);
        items("a=1 ", 1);
        items("    a=1    ", 1);
        items("a=1a=2", 2);
        items("a=1 a=2", 2);
        items("a=1     a=2", 2);
        items("a=12a=3r1:1=1l1:1=1a=4", 5);
        items("  a=1r0:0=99   l0:0=0  ", 3);
    }

    private static String with(String ahead, int value, String behind) {
        return ahead + (char) (value & 255) + behind;
    }

    /** Of all bytes only blanks and r, l, a (97, 108, 114) can come ahead of an item. */
    private static void everyByteAhead() {
        for (int v = -128; v <= 127; v++) {
            boolean item = v == 97 || v == 108 || v == 114;
            fault(with("", v, ""), v == 32 ? NONE : item ? 1 : 0);
        }
    }

    /** ":" (58), "=" (61), figures (48 .. 57) and SIDES (48 .. 55) are these bytes alone. */
    private static void everyByteWithin() {
        for (int v = -128; v <= 127; v++) {
            boolean figure = v >= 48 && v <= 57;
            // Behind a figure it is a CELL of three figures, 501 to 591: out of these.
            fault(with("r5", v, "1=1"), v == 58 ? NONE : figure ? 4 : 2);
            fault(with("r5:1", v, "1"), v == 61 ? NONE : 4);
            fault(with("a", v, "1"), v == 61 ? NONE : 1);
            fault(with("r", v, ":1=1"), figure ? NONE : 1);
            fault(with("r5:", v, "=1"), figure ? NONE : 3);
            fault(with("l5:", v, "=1"), v >= 48 && v <= 55 ? NONE : 3);
            fault(with("a=", v, ""), figure ? NONE : 2);
        }
    }

    /** "CELL c (one to three figures, 0 .. 119)"; "(a CELL out of these: the place behind ..)". */
    private static void cellsOutOfThese() {
        for (int cell : new int[] {0, 1, 9, 10, 99, 100, 118, 119}) {
            fault("r" + cell + ":1=1", NONE);
            fault("l" + cell + ":1=1", NONE);
        }
        for (int cell : new int[] {120, 121, 130, 199, 200, 500, 998, 999}) {
            fault("r" + cell + ":1=1", 4);
            fault("l" + cell + ":1=1", 4);
            fault("a=1 l" + cell + ":1=1", 8);
            fault("r" + cell, 4);
            fault("r" + cell + "x", 4);
            fault("r" + cell + "0:1=1", 4);
        }
    }

    /** "one to three figures": none and four are not. */
    private static void figuresOfCells() {
        fault("r:1=1", 1);
        fault("l:1=1", 1);
        fault("r0:1=1", NONE);
        fault("r00:1=1", NONE);
        fault("r000:1=1", NONE);
        fault("r0000:1=1", 4);
        fault("r007:1=1", NONE);
        fault("r0119:1=1", 4);
        fault("l019:1=1", NONE);
        fault("l0019:1=1", 4);
        fault("r1190:1=1", 4);
        fault("r-1:1=1", 1);
        fault("r+1:1=1", 1);
    }

    /** "SIDE s (one figure 0 .. 7)", "(.. a SIDE that is none: its place ..)", "d (one figure)". */
    private static void sidesThatAreNone() {
        for (int figure = 0; figure <= 9; figure++) {
            fault("l60:" + figure + "=1", figure <= 7 ? NONE : 4);
            fault("r60:" + figure + "=1", NONE);
            fault("r60:1" + figure + "=1", 5);
            fault("l60:1" + figure + "=1", 5);
        }
        fault("l60:8", 4);
        fault("l60:9", 4);
        fault("r60:=1", 4);
        fault("l60:=1", 4);
    }

    /** "weigh w (one or two figures, 0 .. 99)". */
    private static void figuresOfWeights() {
        for (String w : new String[] {"0", "9", "00", "07", "10", "99"}) {
            TwoFliers x = new TwoFliers();
            CHECK.due("a=" + w, Make.story(x, 1, "a=" + w), 1);
            CHECK.due("weighs " + w, x.lies(1, 0), Integer.parseInt(w));
            CHECK.due("r0:0=" + w, Make.story(x, 2, "r0:0=" + w), 1);
            CHECK.due("weighs " + w, x.lies(2, 0), Integer.parseInt(w));
            CHECK.due("l0:0=" + w, Make.story(x, 3, "l0:0=" + w), 1);
            CHECK.due("weighs " + w, x.lies(3, 0), Integer.parseInt(w));
        }
        fault("a=", 2);
        fault("a=100", 4);
        fault("a=000", 4);
        fault("r0:0=100", 7);
        fault("l0:0=100", 7);
        fault("a=-1", 2);
    }

    /** "the first place": of two FAULTS the first one. */
    private static void firstFaultCounts() {
        fault("x y", 0);
        fault("r120:x=x", 4);
        fault("l120:9=1", 4);
        fault("l5:9=x", 3);
        fault("a=1 a=x b", 6);
        fault("a=1 r120", 8);
    }

    /** "items (none, too)"; TEXTS of 0 to 80 bytes. */
    private static void emptyAndFull() {
        items("", 0);
        items(" ", 0);
        items(" ".repeat(80), 0);
        items("a=1".repeat(26) + "  ", 26);
        items("a=10".repeat(20), 20);
        items(" ".repeat(77) + "a=1", 1);
        items("a=1" + " ".repeat(77), 1);
        items("l0:0=1".repeat(13) + "  ", 13);
        fault(" ".repeat(79) + "a", 80);
        fault(" ".repeat(79) + "x", 79);
        fault("a=10".repeat(19) + "a=1x", 79);
        fault("a=1".repeat(26) + "a=", 80);
        fault(" ".repeat(76) + "r120", 80);
    }

    /** "A STORY (1 .. 3) by a TEXT (anew)": story() BAD below and above, for either. */
    private static void storyBounds() {
        TwoFliers x = new TwoFliers();
        for (int k : new int[] {0, -1, 4, LEAST, MOST}) {
            watch(x).bad("story " + k, () -> x.story(k, 0));
        }
        for (int t : new int[] {-1, 4, LEAST, MOST}) {
            watch(x).bad("by text " + t, () -> x.story(1, t));
        }
        for (int t = 0; t <= 3; t++) {
            Make.text(x, t, "a=" + (t + 5));
        }
        for (int k = 1; k <= 3; k++) {
            int story = k;
            watch(x).changes("story " + k, () -> x.story(story, story), 1);
            CHECK.due("stories", x.count(1), k);
            CHECK.due("lies", x.lies(k, 119), k + 5);
        }
        watch(x).changes("by text 0", () -> x.story(1, 0), 1);
        CHECK.due("lies", x.lies(1, 0), 5);
    }

    /** "BAD; NOTHING; STATE: a FAULT. (STATE behind NOTHING.)"; what is refused changes nothing. */
    private static void storyOrder() {
        TwoFliers x = new TwoFliers();
        watch(x).bad("BAD ahead of NOTHING", () -> x.story(0, 0));
        watch(x).finding("NOTHING", () -> x.story(1, 3), Make.NOTHING);
        Make.text(x, 3, "a");
        watch(x).bad("BAD ahead of STATE", () -> x.story(4, 3));
        watch(x).same("STATE", () -> x.story(1, 3), TwoFliers.STATE);
        watch(x).finding("still missing", () -> x.lies(1, 0), Make.NOTHING);
        Make.story(x, 1, "a=7");
        watch(x).same("STATE again", () -> x.story(1, 3), TwoFliers.STATE);
        CHECK.due("as it was", x.lies(1, 0), 7);
        Make.text(x, 3, "a=9 r0:0=5 x");
        watch(x).same("STATE at the end", () -> x.story(1, 3), TwoFliers.STATE);
        CHECK.due("still as it was", x.lies(1, 0), 7);
    }

    /** "(anew)"; a STORY stays as its TEXT was. */
    private static void storyAnew() {
        TwoFliers x = new TwoFliers();
        Make.story(x, 2, "a=9");
        Make.story(x, 2, "r0:0=5");
        CHECK.due("told", x.lies(2, 0), 5);
        CHECK.due("not told any more", x.lies(2, 1), 0);
        CHECK.due("still one story", x.count(1), 1);
        x.put(0, 5, '6');
        CHECK.due("a byte later put", x.lies(2, 0), 5);
        x.text(0, 0);
        CHECK.due("a text later anew", x.lies(2, 0), 5);
        CHECK.due("by an empty text", x.story(2, 0), 0);
        CHECK.due("nothing weighs", x.lies(2, 0), 0);
        CHECK.due("a story still", x.count(1), 1);
    }

    /** lies(): "BAD; NOTHING." */
    private static void liesBounds() {
        TwoFliers x = new TwoFliers();
        for (int k : new int[] {0, -1, 4, LEAST, MOST}) {
            watch(x).bad("lies of story " + k, () -> x.lies(k, 0));
        }
        for (int cell : new int[] {-1, 120, LEAST, MOST}) {
            watch(x).bad("BAD ahead of NOTHING, cell " + cell, () -> x.lies(1, cell));
        }
        for (int k = 1; k <= 3; k++) {
            int story = k;
            watch(x).finding("missing story " + k, () -> x.lies(story, 119), Make.NOTHING);
        }
        Make.story(x, 3, "a=0 r0:0=99 r119:0=1");
        watch(x).same("cell 0", () -> x.lies(3, 0), 99);
        watch(x).same("cell 119", () -> x.lies(3, 119), 1);
        watch(x).same("cell 60", () -> x.lies(3, 60), 0);
        watch(x).bad("cell 120", () -> x.lies(3, 120));
        watch(x).finding("another one is missing still", () -> x.lies(2, 0), Make.NOTHING);
    }

    /** "CELLS no farther than d .. from CELL c .. weigh w": d 0 .. 9, from the corners and the middle. */
    private static void rounds() {
        for (int middle : new int[] {0, 11, 108, 119, 66}) {
            for (int d = 0; d <= 9; d++) {
                TwoFliers x = new TwoFliers();
                CHECK.due("round", Make.story(x, 1, "r" + middle + ":" + d + "=9"), 1);
                for (int cell = 0; cell < 120; cell++) {
                    int wayX = Math.abs(cell % 12 - middle % 12);
                    int wayY = Math.abs(cell / 12 - middle / 12);
                    int want = wayX <= d && wayY <= d ? 9 : 0;
                    CHECK.due("r" + middle + ":" + d + " cell " + cell, x.lies(1, cell), want);
                }
            }
        }
    }

    /** "CELL c, and those on SIDE s .. of it one behind the other, weigh w": to the map's edge, and not around it. */
    private static void lines() {
        int[][] known = {
            // CELL, SIDE, then the CELLS of the line
            {66, 0, 66, 54, 42, 30, 18, 6}, {66, 1, 66, 55, 44, 33, 22, 11}, {66, 2, 66, 67, 68, 69, 70, 71},
            {66, 3, 66, 79, 92, 105, 118}, {66, 4, 66, 78, 90, 102, 114}, {66, 5, 66, 77, 88, 99, 110},
            {66, 6, 66, 65, 64, 63, 62, 61, 60}, {66, 7, 66, 53, 40, 27, 14, 1},
            {0, 0, 0}, {0, 7, 0}, {0, 6, 0}, {0, 5, 0}, {0, 1, 0}, {0, 2, 0, 1, 2, 3, 4, 5, 6, 7, 8, 9, 10, 11},
            {0, 4, 0, 12, 24, 36, 48, 60, 72, 84, 96, 108}, {0, 3, 0, 13, 26, 39, 52, 65, 78, 91, 104, 117},
            {11, 1, 11}, {11, 2, 11}, {11, 3, 11}, {11, 5, 11, 22, 33, 44, 55, 66, 77, 88, 99, 110},
            {11, 6, 0, 1, 2, 3, 4, 5, 6, 7, 8, 9, 10, 11}, {119, 3, 119}, {119, 2, 119}, {119, 4, 119}, {119, 5, 119},
            {119, 7, 119, 106, 93, 80, 67, 54, 41, 28, 15, 2}, {119, 0, 119, 107, 95, 83, 71, 59, 47, 35, 23, 11},
            {108, 1, 108, 97, 86, 75, 64, 53, 42, 31, 20, 9}, {108, 5, 108}, {23, 2, 23}, {12, 6, 12}, {23, 3, 23}, {12, 5, 12}};
        for (int[] k : known) {
            TwoFliers x = new TwoFliers();
            CHECK.due("line", Make.story(x, 2, "l" + k[0] + ":" + k[1] + "=4"), 1);
            int[] want = new int[120];
            for (int i = 2; i < k.length; i++) {
                want[k[i]] = 4;
            }
            for (int cell = 0; cell < 120; cell++) {
                CHECK.due("l" + k[0] + ":" + k[1] + " cell " + cell, x.lies(2, cell), want[cell]);
            }
        }
    }

    /** "The last told counts for each CELL; not told: 0." "a (97) = w: all do." */
    private static void lastToldCounts() {
        TwoFliers x = new TwoFliers();
        Make.story(x, 1, "r66:1=5 l66:2=6 r67:0=7");
        int[][] known = {{66, 6}, {67, 7}, {68, 6}, {65, 5}, {53, 5}, {79, 5}, {80, 0}, {71, 6}, {0, 0}};
        for (int[] k : known) {
            CHECK.due("lies(1, " + k[0] + ")", x.lies(1, k[0]), k[1]);
        }
        Make.story(x, 1, "r66:1=5 a=0");
        CHECK.due("all do", x.lies(1, 66), 0);
        Make.story(x, 1, "a=8 r66:1=0");
        CHECK.due("told as 0", x.lies(1, 66), 0);
        CHECK.due("told as 8", x.lies(1, 68), 8);
        Make.story(x, 1, "a=8 a=3");
        CHECK.due("the later one", x.lies(1, 119), 3);
    }

    /** "STORY 0 is the FLIGHT." */
    private static void storyZeroIsTheFlight() {
        TwoFliers x = new TwoFliers();
        Make.story(x, 1, "r119:0=1");
        Make.flight(x, 77);
        CHECK.odds("most by STORY 0", x, x.most(0), 77, 1, 1);
        CHECK.odds("most by STORY 1", x, x.most(1), 119, 1, 1);
    }
}
