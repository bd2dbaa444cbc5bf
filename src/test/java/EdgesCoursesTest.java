/** Promises 36 to 40 at their edges, with what 'Terms' say of a DRAG and of what is BROUGHT IN. */
public final class EdgesCoursesTest {
    private static final Check CHECK = new Check("EdgesCoursesTest");
    private static final int LEAST = Integer.MIN_VALUE, MOST = Integer.MAX_VALUE;
    private static final int NONE = TwoFliers.NONE;

    public static void main(String[] args) {
        dragBad();
        dragOrder();
        dragRowIsAnew();
        dragHours();
        dragNoFartherThanOne();
        dragAtTheEdges();
        dragUnlikeCells();
        dragFirstWay();
        broughtBounds();
        broughtByNone();
        broughtWithin();
        broughtByOne();
        broughtByTwo();
        broughtByMoreThanTwo();
        broughtOutOfTheMap();
        drawBounds();
        drawWays();
        drawOutOfTheMap();
        drawRowIsAnew();
        imageBounds();
        imageNumbers();
        onOrder();
        onNumbers();
        onNone();
        onBits();
        onAll();
        CHECK.end();
    }

    private static Watch watch(TwoFliers x) {
        return new Watch(CHECK, x);
    }

    private static void sees(TwoFliers x, int r, int... values) {
        for (int i = 0; i < values.length; i++) {
            CHECK.asked("row " + r + " place " + i, x, x.at(r, i), 1, values[i]);
        }
        CHECK.finding("row " + r + " has no more", x, x.at(r, values.length), Make.BEYOND);
    }

    private static TwoFliers story(String text) {
        TwoFliers x = new TwoFliers();
        Make.story(x, 1, text);
        return x;
    }

    /** drag(): "BAD" for a STORY, a CELL, hours (0 .. 4) and a ROW, below and above. */
    private static void dragBad() {
        TwoFliers x = story("a=1");
        for (int cell : new int[] {-1, 120, LEAST, MOST}) {
            watch(x).bad("drag from " + cell, () -> x.drag(1, cell, 0, 0));
        }
        for (int n : new int[] {-1, 5, LEAST, MOST}) {
            watch(x).bad("drag " + n + " hours", () -> x.drag(1, 0, n, 0));
        }
        for (int r : new int[] {-1, 6, LEAST, MOST}) {
            watch(x).bad("drag to row " + r, () -> x.drag(1, 0, 0, r));
        }
        for (int k : new int[] {-1, 4, LEAST, MOST}) {
            watch(x).bad("drag by story " + k, () -> x.drag(k, 0, 0, 0));
        }
        CHECK.due("no row came", x.count(5), 0);
        CHECK.odds("from 119 to row 5", x, x.drag(1, 119, 0, 5), 1, 1, 120);
        sees(x, 5, 119);
    }

    /** drag(): "BAD; NOTHING; SPENT; NOUGHT. (In this order.)": a ROW that is there stays as it was. */
    private static void dragOrder() {
        TwoFliers x = story("a=1");
        Make.row(x, 3, 7, 8);
        for (int e = 0; e < 7; e++) {
            x.sign(4, 0, 119, 12);
        }
        watch(x).bad("BAD ahead of NOTHING", () -> x.drag(2, 0, 5, 3));
        watch(x).finding("NOTHING ahead of SPENT", () -> x.drag(2, 0, 4, 3), Make.NOTHING);
        watch(x).same("SPENT ahead of NOUGHT", () -> x.drag(1, 0, 4, 3), TwoFliers.SPENT);
        x.undo(0, 1);
        watch(x).finding("NOUGHT", () -> x.drag(1, 0, 4, 3), Make.NOUGHT);
        watch(x).finding("NOUGHT by the flight", () -> x.drag(0, 0, 4, 3), Make.NOUGHT);
        sees(x, 3, 7, 8);
    }

    /** "its CELLS, hour by hour, come to a ROW (anew)": one that was longer, empty or missing. */
    private static void dragRowIsAnew() {
        TwoFliers x = story("r0:0=1");
        x.row(1, 40);
        x.lay(1, 39, 5);
        x.row(2, 0);
        for (int r = 1; r <= 3; r++) {
            CHECK.odds("to row " + r, x, x.drag(1, 0, 1, r), 1, 1, 1);
            sees(x, r, 0, 0);
        }
        CHECK.due("rows, with none that the story needs", x.count(5), 3);
        x.near(2);
        CHECK.due("asked() is not told", x.drag(1, 0, 0, 4), 1);
        CHECK.due("asked() stays", x.asked(), 4);
    }

    /** "To DRAG by a STORY n hours (0 .. 4) from a CELL: a ship is there". */
    private static void dragHours() {
        TwoFliers x = story("a=1");
        int[][] ways = {{66}, {66, 53}, {66, 53, 40}, {66, 53, 40, 27}, {66, 53, 40, 27, 14}};
        for (int n = 0; n <= 4; n++) {
            CHECK.due("hours " + n, x.drag(1, 66, n, 0), n + 1);
            CHECK.due("of 120", 120 * x.upper(), (n + 1) * x.lower());
            sees(x, 0, ways[n]);
        }
    }

    /** "each hour goes to a CELL no farther than 1 (or stays)". */
    private static void dragNoFartherThanOne() {
        for (int other : new int[] {53, 54, 55, 65, 67, 77, 78, 79}) {
            TwoFliers x = story("r" + other + ":0=3");
            CHECK.odds("to " + other, x, x.drag(1, 66, 1, 0), 2, 1, 1);
            sees(x, 0, 66, other);
        }
        for (int other : new int[] {42, 41, 40, 64, 88, 90, 92, 68, 44}) {
            TwoFliers x = story("r" + other + ":0=3");
            CHECK.odds("not to " + other + " in one", x, x.drag(1, 66, 1, 0), 2, 0, 1);
            CHECK.odds("to " + other + " in two", x, x.drag(1, 66, 2, 0), 3, 1, 1);
            CHECK.asked("there", x, x.at(0, 2), 1, other);
        }
        TwoFliers x = story("r70:0=3");
        CHECK.odds("to 70 in four", x, x.drag(1, 66, 4, 0), 5, 1, 1);
        CHECK.odds("not to 70 in three", x, x.drag(1, 66, 3, 0), 4, 0, 1);
    }

    /** No way leads out of the map, nor around it. */
    private static void dragAtTheEdges() {
        int[][] apart = {{0, 11}, {11, 12}, {23, 24}, {12, 11}, {119, 108}, {108, 107}, {0, 119}, {0, 108}};
        for (int[] k : apart) {
            TwoFliers x = story("r" + k[1] + ":0=9");
            CHECK.due("from " + k[0], x.drag(1, k[0], 4, 0) > 0 ? 1 : 0, 1);
            CHECK.due("not to " + k[1], x.upper(), 0);
        }
        TwoFliers x = story("r119:1=1");
        CHECK.odds("all four in the corner", x, x.drag(1, 119, 3, 0), 4, 1, 1);
        sees(x, 0, 119, 106, 107, 118);
        Make.story(x, 1, "r0:1=1");
        CHECK.odds("all four in the other corner", x, x.drag(1, 13, 3, 0), 4, 1, 1);
        sees(x, 0, 13, 0, 1, 12);
    }

    /** "the most WEIGHT of unlike CELLS in which it was"; "how many unlike ones". */
    private static void dragUnlikeCells() {
        TwoFliers x = story("r0:0=5 r1:0=1");
        CHECK.odds("to stay counts once", x, x.drag(1, 0, 1, 0), 2, 1, 1);
        sees(x, 0, 0, 1);
        CHECK.odds("there and back counts once", x, x.drag(1, 0, 4, 0), 2, 1, 1);
        sees(x, 0, 0, 0, 0, 0, 1);
        Make.story(x, 1, "r0:0=5");
        CHECK.odds("it stays", x, x.drag(1, 0, 4, 0), 1, 1, 1);
        sees(x, 0, 0, 0, 0, 0, 0);
        Make.story(x, 1, "r118:0=2 r119:0=2");
        CHECK.odds("back by the first way", x, x.drag(1, 118, 2, 0), 3, 1, 1);
        sees(x, 0, 118, 106, 119);
    }

    /** "the first way by CELLS." */
    private static void dragFirstWay() {
        TwoFliers x = story("r53:0=1 r79:0=1");
        CHECK.odds("of two the first", x, x.drag(1, 66, 1, 0), 2, 1, 2);
        sees(x, 0, 66, 53);
        CHECK.odds("both, the first one first", x, x.drag(1, 66, 3, 0), 3, 1, 1);
        sees(x, 0, 66, 53, 66, 79);
        Make.story(x, 1, "r53:0=1 r79:0=2");
        CHECK.odds("one of them is more", x, x.drag(1, 66, 1, 0), 2, 2, 3);
        sees(x, 0, 66, 79);
    }

    /** brought(): "d (0 .. 5)"; "BAD." */
    private static void broughtBounds() {
        TwoFliers x = new TwoFliers();
        x.near(2);
        for (int cell : new int[] {-1, 120, LEAST, MOST}) {
            watch(x).bad("brought to " + cell, () -> x.brought(cell, 0));
        }
        for (int d : new int[] {-1, 6, LEAST, MOST}) {
            watch(x).bad("brought within " + d, () -> x.brought(0, d));
        }
        watch(x).asks("cell 0 within 0", () -> x.brought(0, 0), 0, 0);
        watch(x).asks("cell 0 within 5", () -> x.brought(0, 5), 0, 0);
        watch(x).same("cell 119 within 5", () -> x.brought(119, 5), NONE);
    }

    /** "at some hour (0 .. n)": the first and the last one, too; "of none 0". */
    private static void broughtByNone() {
        TwoFliers x = new TwoFliers();
        Make.flight(x, 60, 2, 2, 2, 2, 2, 2);
        for (int cell = 60; cell <= 66; cell++) {
            int goal = cell;
            x.near(2);
            watch(x).asks("on its way at " + cell, () -> x.brought(goal, 0), 0, 0);
        }
        Make.ends(x, 9, 0, 0, 0, 0, 0, 0);
        watch(x).asks("its ENDS are not looked at", () -> x.brought(66, 0), 0, 0);
        x.sign(4, 66, 66, 12);
        watch(x).asks("nor its SIGNS", () -> x.brought(66, 0), 0, 0);
    }

    /** "no farther than d from it". */
    private static void broughtWithin() {
        for (int d = 0; d <= 5; d++) {
            int within = d;
            TwoFliers x = new TwoFliers();
            Make.flight(x, 0);
            x.near(2);
            watch(x).asks(d + " off", () -> x.brought(within, within), 0, 0);
            watch(x).asks(d + " down", () -> x.brought(12 * within, within), 0, 0);
            watch(x).asks(d + " across", () -> x.brought(13 * within, within), 0, 0);
            x.near(2);
            watch(x).same(d + " and 1 off", () -> x.brought(within + 1, within), NONE);
            watch(x).same(d + " and 1 down", () -> x.brought(12 * within + 12, within), NONE);
        }
    }

    /** "of one 10 times the hour and the SIDE (by hours, then SIDES)". */
    private static void broughtByOne() {
        TwoFliers x = new TwoFliers();
        Make.flight(x, 0, 0, 0, 0, 0, 0, 7);
        watch(x).asks("the first hour, east", () -> x.brought(1, 0), 1, 2);
        watch(x).asks("the first hour, south", () -> x.brought(12, 0), 1, 4);
        watch(x).asks("the first hour, south-east", () -> x.brought(13, 0), 1, 3);
        Make.flight(x, 66, 2, 6, 2, 6, 2, 2);
        // At hours 66, 67, 66, 67, 66, 67, 68.
        watch(x).asks("the first hour, north, then west", () -> x.brought(53, 0), 1, 0);
        watch(x).asks("the first hour, north-west", () -> x.brought(52, 0), 1, 7);
        watch(x).asks("within 1 by hour 0, north", () -> x.brought(43, 1), 1, 0);
        watch(x).asks("the second hour, north-east", () -> x.brought(56, 0), 1, 1);
        watch(x).asks("within 0 to the east", () -> x.brought(69, 0), 1, 12);
        Make.flight(x, 60, 6, 6, 6, 6, 6, 6);
        watch(x).asks("the first of alike hours", () -> x.brought(48, 0), 1, 0);
        Make.flight(x, 60, 2, 2, 2, 2, 2, 6);
        // CELL 66 and those beside it are six hours to the east: all six are needed.
        watch(x).asks("the last hour, north-east", () -> x.brought(54, 0), 1, 51);
        watch(x).asks("the last hour, east", () -> x.brought(66, 0), 1, 52);
        Make.flight(x, 60, 2, 2, 2, 2, 2, 2);
        x.course(5, 0);
        watch(x).asks("the last hour, south-east", () -> x.brought(78, 0), 1, 53);
        Make.flight(x, 71, 6, 6, 6, 6, 6, 0);
        watch(x).asks("the last hour, west", () -> x.brought(65, 0), 1, 56);
        watch(x).asks("the last hour, south-west", () -> x.brought(77, 0), 1, 55);
    }

    /** "of two as much of the earlier one, and 100, and 1000 times the hour of the later one and 100 times its SIDE". */
    private static void broughtByTwo() {
        TwoFliers x = new TwoFliers();
        Make.flight(x, 66, 4, 4);
        int[][] twice = {
            // the CELL two hours on, and the first two SIDES that lead to it: east and west by the SIDES beside them
            {42, 0, 0}, {44, 1, 1}, {68, 1, 3}, {92, 3, 3}, {88, 5, 5}, {64, 5, 7}, {40, 7, 7}};
        for (int[] t : twice) {
            watch(x).asks("to " + t[0], () -> x.brought(t[0], 0), 2, t[1] + 100 + 1000 + 100 * t[2]);
        }
        Make.flight(x, 71, 6, 6, 6, 6, 0, 0);
        // Six hours to the west lead to 65: the last two are wrong; south-west and north-west are the first two that do.
        watch(x).asks("the last two hours", () -> x.brought(65, 0), 2, 45 + 100 + 5000 + 700);
        Make.flight(x, 119, 7, 7, 7, 7, 3, 3);
        watch(x).asks("the last two hours, north-west", () -> x.brought(41, 0), 2, 47 + 100 + 5000 + 700);
        Make.flight(x, 60, 2, 4, 2, 4, 2, 2);
        watch(x).asks("hours 1 and 3", () -> x.brought(66, 0), 2, 11 + 100 + 3000 + 300);
    }

    /** "(2 at most)", "NONE: two do not do.": asked() stays. */
    private static void broughtByMoreThanTwo() {
        TwoFliers x = new TwoFliers();
        Make.flight(x, 71, 6, 6, 6, 0, 0, 0);
        x.near(2);
        watch(x).same("three would do", () -> x.brought(65, 0), NONE);
        Make.flight(x, 66, 2, 2, 2);
        x.near(2);
        watch(x).same("three would do in three hours", () -> x.brought(30, 0), NONE);
        Make.flight(x, 66, 2);
        x.near(2);
        watch(x).same("two hours would do", () -> x.brought(42, 0), NONE);
        Make.flight(x, 66);
        x.near(2);
        watch(x).same("no hours", () -> x.brought(67, 0), NONE);
    }

    /** "(no spread; out of the map it stays)". */
    private static void broughtOutOfTheMap() {
        TwoFliers x = new TwoFliers();
        Make.flight(x, 1, 7, 6);
        watch(x).asks("north-west stays, then west", () -> x.brought(0, 0), 0, 0);
        watch(x).same("not around the map", () -> x.brought(11, 0), NONE);
        Make.flight(x, 118, 3, 2);
        watch(x).asks("south-east stays, then east", () -> x.brought(119, 0), 0, 0);
        Make.flight(x, 66, 2);
        watch(x).asks("no spread", () -> x.brought(55, 0), 1, 1);
    }

    /** draw(): "a seed (1 .. 2147483646)"; "BAD." */
    private static void drawBounds() {
        TwoFliers x = new TwoFliers();
        Make.row(x, 2, 5);
        for (int seed : new int[] {0, -1, LEAST, 2147483647}) {
            watch(x).bad("seed " + seed, () -> x.draw(seed, 2));
        }
        for (int r : new int[] {-1, 6, LEAST, MOST}) {
            watch(x).bad("to row " + r, () -> x.draw(1, r));
        }
        watch(x).changes("no hours: the last number is the seed", () -> x.draw(1, 0), 1);
        watch(x).changes("the greatest seed", () -> x.draw(2147483646, 5), 2147483646);
        sees(x, 0, 0);
        sees(x, 5, 0);
        Make.flight(x, 66, 0);
        watch(x).changes("one hour of seed 1", () -> x.draw(1, 0), 48271);
        watch(x).changes("one hour of the greatest", () -> x.draw(2147483646, 0), 2147483647 - 48271);
    }

    /** "it modulo 4: 0, 1 on its COURSE, 2 on the SIDE ahead, 3 on that behind": 7 is ahead of 0, 0 behind 7. */
    private static void drawWays() {
        int[] beside = {54, 55, 67, 79, 78, 77, 65, 53};
        // 48271 times 4, 1, 2, 3 is 0, 3, 2, 1 modulo 4, and below 2147483647.
        int[][] turns = {{4, 0}, {1, 1}, {2, 7}, {3, 0}};
        for (int course = 0; course < 8; course++) {
            for (int[] t : turns) {
                TwoFliers x = new TwoFliers();
                Make.flight(x, 66, course);
                watch(x).changes("seed " + t[0], () -> x.draw(t[0], 1), 48271 * t[0]);
                sees(x, 1, 66, beside[(course + t[1]) % 8]);
            }
        }
    }

    /** Out of the map it stays, when it is drawn too. */
    private static void drawOutOfTheMap() {
        int[][] known = {
            // from, course, and where it is by seeds 4 (on it), 2 (ahead), 1 (behind)
            {0, 0, 0, 0, 0}, {0, 1, 0, 0, 1}, {11, 2, 11, 11, 11}, {119, 3, 119, 119, 119}, {108, 5, 108, 108, 108}, {6, 0, 6, 6, 6},
            {6, 2, 7, 6, 19}, {23, 2, 23, 23, 23}, {60, 6, 60, 60, 60}, {71, 4, 83, 71, 82}};
        int[] seeds = {4, 2, 1};
        for (int[] k : known) {
            for (int i = 0; i < 3; i++) {
                TwoFliers x = new TwoFliers();
                Make.flight(x, k[0], k[1]);
                x.draw(seeds[i], 1);
                sees(x, 1, k[0], k[2 + i]);
            }
        }
    }

    /** "its CELLS, from hour 0 on, come to a ROW (anew)": whatever its ENDS are. */
    private static void drawRowIsAnew() {
        TwoFliers x = new TwoFliers();
        Make.flight(x, 66, 2, 2, 2, 2, 2, 2);
        Make.ends(x, 9, 0, 0, 0, 0, 0, 0);
        x.row(4, 40);
        x.lay(4, 39, 1);
        x.near(2);
        // Numbers 48271, 182605794, 1291394886, 1914720637, 2078669041, 407355683: modulo 4 3, 2, 2, 1, 1, 3.
        watch(x).changes("six hours", () -> x.draw(1, 4), 407355683);
        sees(x, 4, 66, 79, 68, 57, 58, 59, 59);
    }

    /** image(): "comes to a ROW (anew): 16. BAD." */
    private static void imageBounds() {
        TwoFliers x = new TwoFliers();
        for (int r : new int[] {-1, 6, LEAST, MOST}) {
            watch(x).bad("image to row " + r, () -> x.image(r));
        }
        x.row(5, 40);
        x.lay(5, 20, 1);
        for (int r = 0; r <= 5; r++) {
            int row = r;
            watch(x).changes("image to row " + r, () -> x.image(row), 16);
            sees(x, r, 0, 0, -9, -9, -9, -9, -9, -9, 1, -9, -9, -9, -9, -9, -9, 0);
        }
    }

    /** "of the FLIGHT (plan() 0 to 14), of which SIGNS are UNDONE (bits)". */
    private static void imageNumbers() {
        TwoFliers x = new TwoFliers();
        Make.flight(x, 119, 1, 2, 3, 4, 5, 6);
        Make.ends(x, 9, 8, 7, 6, 5, 4, 3);
        for (int e = 0; e < 12; e++) {
            x.sign(e % 8, 0, 0, 0);
        }
        x.image(1);
        sees(x, 1, 119, 6, 1, 2, 3, 4, 5, 6, 9, 8, 7, 6, 5, 4, 3, 0);
        x.undo(0, 1);
        x.undo(11, 1);
        x.image(1);
        CHECK.asked("the first and the last", x, x.at(1, 15), 1, 2049);
        for (int e = 0; e < 12; e++) {
            x.undo(e, 1);
        }
        x.image(1);
        CHECK.asked("all twelve", x, x.at(1, 15), 1, 4095);
    }

    /** on(): "BAD; NOTHING; SIZE: not 16; UNLIKE: a number". */
    private static void onOrder() {
        TwoFliers x = new TwoFliers();
        Make.flight(x, 66, 2);
        for (int r : new int[] {-1, 6, LEAST, MOST}) {
            watch(x).bad("on by row " + r, () -> x.on(r));
        }
        for (int r = 0; r <= 5; r++) {
            int row = r;
            x.tear(r);
            watch(x).finding("on by missing row " + r, () -> x.on(row), Make.NOTHING);
        }
        for (int size : new int[] {0, 1, 15, 17, 40}) {
            x.row(0, size);
            watch(x).finding("on by a row of " + size, () -> x.on(0), Make.SIZE);
        }
        x.row(0, 16);
        watch(x).finding("sixteen 0", () -> x.on(0), Make.UNLIKE);
    }

    /** "UNLIKE: a number (as plan() could tell it ..)": each place at both ends, for each number of hours. */
    private static void onNumbers() {
        for (int hours = 0; hours <= 6; hours++) {
            for (int place = 0; place < 15; place++) {
                onNumber(hours, place);
            }
        }
    }

    private static int[] image(int hours) {
        int[] v = {66, hours, -9, -9, -9, -9, -9, -9, -9, -9, -9, -9, -9, -9, -9, 0};
        for (int h = 0; h < hours; h++) {
            v[2 + h] = 3;
        }
        for (int h = 0; h <= hours; h++) {
            v[8 + h] = 2;
        }
        return v;
    }

    private static void onNumber(int hours, int place) {
        int most = place == 0 ? 119 : place == 1 ? hours : place < 8 ? 7 : 9;
        int least = place == 1 ? hours : 0;
        boolean told = place < 2 || (place < 8 ? place - 2 < hours : place - 8 <= hours);
        TwoFliers x = new TwoFliers();
        Make.flight(x, 5, 1, 1);
        int[] wrong = told ? new int[] {least - 1, most + 1, -9, LEAST, MOST} : new int[] {0, 1, -1, -8, -10, LEAST, MOST};
        for (int v : wrong) {
            Make.row(x, 0, image(hours));
            x.lay(0, place, v);
            watch(x).finding(hours + " hours, place " + place + " is " + v, () -> x.on(0), Make.UNLIKE);
        }
        int[] right = told ? new int[] {least, most} : new int[] {-9};
        for (int v : right) {
            Make.row(x, 0, image(hours));
            x.lay(0, place, v);
            boolean noEnds = hours == 0 && place == 8 && v == 0;
            if (!noEnds) {
                watch(x).changes(hours + " hours, place " + place + " is " + v, () -> x.on(0), 1);
                CHECK.asked("as told", x, x.plan(place), 1, v);
            }
        }
    }

    /** ends() never lets all ENDS be 0, so plan() could not tell it. */
    private static void onNone() {
        for (int hours = 0; hours <= 6; hours++) {
            TwoFliers x = new TwoFliers();
            int[] v = image(hours);
            for (int h = 0; h <= hours; h++) {
                v[8 + h] = 0;
            }
            Make.row(x, 0, v);
            watch(x).finding("all ENDS 0 of " + hours + " hours", () -> x.on(0), Make.UNLIKE);
            x.lay(0, 8 + hours, 1);
            watch(x).changes("but the last", () -> x.on(0), 1);
        }
    }

    /** "(.. bits of SIGNS that there are)" */
    private static void onBits() {
        for (int signs : new int[] {0, 1, 2, 11, 12}) {
            TwoFliers x = new TwoFliers();
            for (int e = 0; e < signs; e++) {
                x.sign(0, 0, 0, 0);
            }
            x.image(0);
            for (int bits : new int[] {1 << signs, (1 << signs) + 1, 1 << 12, 1 << 30, LEAST, MOST, -1, -9}) {
                x.lay(0, 15, bits);
                watch(x).finding("bits " + bits + " of " + signs, () -> x.on(0), Make.UNLIKE);
            }
            x.lay(0, 15, (1 << signs) - 1);
            watch(x).changes("all bits of " + signs, () -> x.on(0), 1);
            CHECK.due("UNDONE", x.count(4), signs);
            x.lay(0, 15, 0);
            watch(x).changes("no bits of " + signs, () -> x.on(0), 1);
            CHECK.due("UNDONE", x.count(4), 0);
        }
    }

    /** "All is as an image in a ROW tells: 1.": the FLIGHT and what is UNDONE, and nothing else. */
    private static void onAll() {
        TwoFliers x = new TwoFliers();
        Make.flight(x, 66, 1, 2, 3, 4, 5, 6);
        Make.ends(x, 1, 2, 3, 4, 5, 6, 7);
        Make.story(x, 2, "r5:0=5");
        x.sign(5, 1, 2, 3);
        x.sign(4, 1, 2, 3);
        x.undo(1, 1);
        x.image(4);
        Make.row(x, 0, 7);
        long was = x.digest();
        x.row(5, 0);
        x.flight(0, 5);
        x.tear(5);
        x.undo(0, 1);
        x.undo(1, 0);
        watch(x).changes("from no hours", () -> x.on(4), 1);
        CHECK.due("all is as it was", x.digest(), was);
        watch(x).same("once more", () -> x.on(4), 1);
        x.sign(6, 9, 2, 3);
        x.undo(2, 1);
        Make.story(x, 2, "r6:0=6");
        watch(x).changes("with a SIGN that came later", () -> x.on(4), 1);
        CHECK.asked("it is not UNDONE", x, x.told(2, 4), 1, 0);
        CHECK.due("it is there", x.count(2), 3);
        CHECK.due("the story stays as it is", x.lies(2, 6), 6);
        Make.flight(x, 3);
        x.image(3);
        Make.flight(x, 66, 1, 2, 3, 4, 5, 6);
        watch(x).changes("to no hours", () -> x.on(3), 1);
        CHECK.due("no hours", x.count(0), 0);
        CHECK.odds("it is there", x, x.ended(0), 1, 1, 1);
        CHECK.odds("in its CELL", x, x.most(0), 3, 1, 1);
    }
}
