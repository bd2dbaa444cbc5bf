/** Promises 10 to 13 and 17 at their edges, with what 'Terms' say of CELLS, FAR, SIDES and a FLIGHT. */
public final class EdgesFlightTest {
    private static final Check CHECK = new Check("EdgesFlightTest");
    private static final int LEAST = Integer.MIN_VALUE, MOST = Integer.MAX_VALUE;

    public static void main(String[] args) {
        farBounds();
        farIsTheGreaterWay();
        sideTwiceOrMore();
        sideOfAll();
        flightBad();
        flightHours();
        flightSides();
        flightOrder();
        flightAnew();
        endsBad();
        endsSize();
        endsNumbers();
        endsOrder();
        courseBounds();
        planBounds();
        spreadOnEachCourse();
        staysOutOfTheMap();
        endsAreOdds();
        CHECK.end();
    }

    private static Watch watch(TwoFliers x) {
        return new Watch(CHECK, x);
    }

    private static void plans(TwoFliers x, int... plan) {
        for (int what = 0; what < plan.length; what++) {
            CHECK.asked("plan(" + what + ")", x, x.plan(what), 1, plan[what]);
        }
    }

    private static void where(TwoFliers x, int cell, long up, long low) {
        CHECK.odds("where(0, " + cell + ")", x, x.where(0, cell), 1, up, low);
    }

    /** "CELLS are 0 .. 119": far() BAD below and above, for either. */
    private static void farBounds() {
        TwoFliers x = new TwoFliers();
        x.near(2);
        for (int cell : new int[] {-1, 120, LEAST, MOST}) {
            watch(x).bad("far of cell " + cell, () -> x.far(cell, 0));
            watch(x).bad("far of other " + cell, () -> x.far(0, cell));
        }
        watch(x).asks("from 0 to 119", () -> x.far(0, 119), 11, 3);
        watch(x).asks("from 119 to 0", () -> x.far(119, 0), 11, 7);
    }

    /** "x is a CELL modulo 12, y is it by 12, cut"; "FAR is .. the greater of the ways in x and y." */
    private static void farIsTheGreaterWay() {
        TwoFliers x = new TwoFliers();
        int[][] known = {
            {0, 0, 0}, {0, 1, 1}, {0, 11, 11}, {0, 12, 1}, {0, 13, 1}, {11, 12, 11}, {0, 108, 9}, {0, 119, 11}, {11, 108, 11},
            {119, 119, 0}, {11, 119, 9}, {5, 66, 5}, {66, 5, 5}, {23, 24, 11}, {107, 108, 11}, {59, 60, 11}};
        for (int[] k : known) {
            CHECK.due("far(" + k[0] + ", " + k[1] + ")", x.far(k[0], k[1]), k[2]);
        }
    }

    /** "east or west, if the way in x is 2 times that in y or more; else north or south, if .. or more; else between (the same CELL: on none)." */
    private static void sideTwiceOrMore() {
        int[][] known = {
            // ways x, y from CELL 65 (x 5, y 5), and the SIDE
            {0, 0, -9}, {1, 0, 2}, {6, 0, 2}, {-1, 0, 6}, {-5, 0, 6}, {0, -1, 0}, {0, -5, 0}, {0, 1, 4}, {0, 4, 4},
            {2, 1, 2}, {2, -1, 2}, {-2, 1, 6}, {-2, -1, 6}, {4, 2, 2}, {-4, -2, 6}, {6, 3, 2}, {5, 2, 2}, {-5, 2, 6},
            {1, 2, 4}, {-1, 2, 4}, {1, -2, 0}, {-1, -2, 0}, {2, 4, 4}, {-2, -4, 0}, {2, -5, 0}, {-2, -5, 0},
            {1, 1, 3}, {1, -1, 1}, {-1, 1, 5}, {-1, -1, 7}, {3, 2, 3}, {2, 3, 3}, {3, -2, 1}, {2, -3, 1},
            {-3, 2, 5}, {-2, 3, 5}, {-3, -2, 7}, {-2, -3, 7}, {5, 3, 3}, {5, -3, 1}, {-5, 3, 5}, {-5, -3, 7},
            {3, -5, 1}, {-3, -5, 7}, {6, 4, 3}, {6, -4, 1}};
        TwoFliers x = new TwoFliers();
        for (int[] k : known) {
            int other = 65 + k[0] + 12 * k[1];
            CHECK.asked("ways " + k[0] + ", " + k[1], x, x.far(65, other), Math.max(Math.abs(k[0]), Math.abs(k[1])), k[2]);
        }
    }

    /** All CELLS against all: the SIDE across is 4 on, and y grows to the south. */
    private static void sideOfAll() {
        for (int cell = 0; cell < 120; cell++) {
            TwoFliers x = new TwoFliers();
            for (int other = 0; other < 120; other++) {
                int wayX = other % 12 - cell % 12;
                int wayY = other / 12 - cell / 12;
                x.far(cell, other);
                int side = x.asked();
                boolean eastOrWest = side == 2 || side == 6;
                boolean northOrSouth = side == 0 || side == 4;
                if (cell != other) {
                    int twiceX = 2 * Math.abs(wayX);
                    int twiceY = 2 * Math.abs(wayY);
                    CHECK.due("east or west of " + cell + ": " + other, eastOrWest ? 1 : 0, twiceY <= Math.abs(wayX) ? 1 : 0);
                    CHECK.due("north or south of " + cell + ": " + other, northOrSouth ? 1 : 0, twiceX <= Math.abs(wayY) ? 1 : 0);
                    boolean north = side == 7 || side == 0 || side == 1;
                    boolean west = side >= 5;
                    CHECK.due("north", north ? 1 : 0, wayY < 0 && !eastOrWest ? 1 : 0);
                    CHECK.due("west", west ? 1 : 0, wayX < 0 && !northOrSouth ? 1 : 0);
                }
                x.far(other, cell);
                CHECK.due("across of " + cell + ", " + other, x.asked(), cell == other ? -9 : (side + 4) % 8);
            }
        }
    }

    /** flight(): "BAD" for a CELL and a ROW, below and above. */
    private static void flightBad() {
        TwoFliers x = new TwoFliers();
        x.row(0, 0);
        x.row(5, 0);
        for (int cell : new int[] {-1, 120, LEAST, MOST}) {
            watch(x).bad("from cell " + cell, () -> x.flight(cell, 0));
        }
        for (int r : new int[] {-1, 6, LEAST, MOST}) {
            watch(x).bad("by row " + r, () -> x.flight(0, r));
        }
        watch(x).changes("from cell 119 by row 5", () -> x.flight(119, 5), 0);
        plans(x, 119, 0);
        watch(x).changes("from cell 0 by row 0", () -> x.flight(0, 0), 0);
        plans(x, 0, 0);
    }

    /** "goes n hours (0 .. 6)"; "it ENDS at its last hour: how many hours."; "SIZE: more than 6". */
    private static void flightHours() {
        for (int n = 0; n <= 6; n++) {
            TwoFliers x = new TwoFliers();
            int hours = n;
            x.row(1, n);
            watch(x).changes(n + " hours", () -> x.flight(66, 1), n);
            CHECK.due(n + " hours", x.count(0), n);
            for (int h = 0; h <= 6; h++) {
                CHECK.asked("course " + h + " of " + n, x, x.plan(2 + Math.min(h, 5)), 1, Math.min(h, 5) < hours ? 0 : -9);
                CHECK.asked("end " + h + " of " + n, x, x.plan(8 + h), 1, h < n ? 0 : h == n ? 1 : -9);
            }
        }
        TwoFliers x = new TwoFliers();
        for (int n : new int[] {7, 8, 40}) {
            x.row(1, n);
            watch(x).finding(n + " hours", () -> x.flight(66, 1), Make.SIZE);
        }
    }

    /** "by COURSES (a SIDE each)"; "UNLIKE: no SIDE": at the first and at the last hour. */
    private static void flightSides() {
        for (int place = 0; place < 6; place++) {
            TwoFliers x = new TwoFliers();
            Make.flight(x, 5, 4, 4);
            x.row(0, 6);
            for (int v : new int[] {-1, 8, LEAST, MOST, -9}) {
                x.lay(0, place, v);
                watch(x).finding("course " + v + " at " + place, () -> x.flight(66, 0), Make.UNLIKE);
            }
            for (int v : new int[] {0, 7}) {
                x.lay(0, place, v);
                watch(x).changes("course " + v + " at " + place, () -> x.flight(66, 0), 6);
                CHECK.asked("course " + v, x, x.plan(2 + place), 1, v);
            }
        }
    }

    /** "BAD; NOTHING; SIZE: more than 6; UNLIKE: no SIDE." */
    private static void flightOrder() {
        TwoFliers x = new TwoFliers();
        watch(x).bad("BAD ahead of NOTHING", () -> x.flight(120, 5));
        watch(x).finding("NOTHING", () -> x.flight(119, 5), Make.NOTHING);
        Make.row(x, 5, 8, 8, 8, 8, 8, 8, 8);
        watch(x).bad("BAD ahead of SIZE", () -> x.flight(-1, 5));
        watch(x).finding("SIZE ahead of UNLIKE", () -> x.flight(119, 5), Make.SIZE);
        Make.row(x, 5, 8);
        watch(x).bad("BAD ahead of UNLIKE", () -> x.flight(-1, 5));
    }

    /** "A FLIGHT (anew)": nothing of the earlier one is left, all else stays, and the ROW is its own. */
    private static void flightAnew() {
        TwoFliers x = new TwoFliers();
        Make.flight(x, 66, 1, 2, 3, 4, 5, 6);
        Make.ends(x, 9, 8, 7, 6, 5, 4, 3);
        x.sign(5, 0, 2, 3);
        x.undo(0, 1);
        Make.story(x, 1, "a=3");
        CHECK.due("two hours", Make.flight(x, 7, 5, 6), 2);
        plans(x, 7, 2, 5, 6, -9, -9, -9, -9, 0, 0, 1, -9, -9, -9, -9);
        CHECK.asked("the sign is still UNDONE", x, x.told(0, 4), 1, 1);
        CHECK.due("the story is still there", x.lies(1, 119), 3);
        x.lay(0, 0, 1);
        x.tear(0);
        plans(x, 7, 2, 5, 6);
        CHECK.due("six hours again", Make.flight(x, 8, 0, 0, 0, 0, 0, 0), 6);
        plans(x, 8, 6, 0, 0, 0, 0, 0, 0, 0, 0, 0, 0, 0, 0, 1);
    }

    /** ends(): "BAD; NOTHING". */
    private static void endsBad() {
        TwoFliers x = new TwoFliers();
        for (int r : new int[] {-1, 6, LEAST, MOST}) {
            watch(x).bad("ends by row " + r, () -> x.ends(r));
        }
        for (int r = 0; r <= 5; r++) {
            int row = r;
            watch(x).finding("ends by a missing row", () -> x.ends(row), Make.NOTHING);
        }
        Make.row(x, 5, 4);
        watch(x).changes("ends by row 5", () -> x.ends(5), 4);
    }

    /** "SIZE: not as many as hours and 1". */
    private static void endsSize() {
        for (int n = 0; n <= 6; n++) {
            TwoFliers x = new TwoFliers();
            x.row(0, n);
            x.flight(66, 0);
            for (int size : new int[] {0, n, n + 2, 40}) {
                if (size != n + 1) {
                    x.row(1, size);
                    watch(x).finding(size + " ends of " + n + " hours", () -> x.ends(1), Make.SIZE);
                }
            }
            x.row(1, n + 1);
            x.lay(1, 0, 9);
            watch(x).changes("ends of " + n + " hours", () -> x.ends(1), 9);
            plans(x, 66, n);
            CHECK.asked("end 0 of " + n, x, x.plan(8), 1, 9);
        }
    }

    /** "UNLIKE: not 0 .. 9; NOUGHT: all are 0."; "all together". */
    private static void endsNumbers() {
        TwoFliers x = new TwoFliers();
        Make.flight(x, 66, 0, 0, 0, 0, 0, 0);
        for (int place : new int[] {0, 3, 6}) {
            x.row(0, 7);
            for (int v : new int[] {-1, 10, LEAST, MOST, -9}) {
                x.lay(0, place, v);
                watch(x).finding("end " + v + " at " + place, () -> x.ends(0), Make.UNLIKE);
            }
            x.lay(0, place, 0);
            watch(x).finding("all are 0", () -> x.ends(0), Make.NOUGHT);
        }
        for (int place = 0; place <= 6; place++) {
            x.row(0, 7);
            x.lay(0, place, 1);
            CHECK.due("one 1", x.ends(0), 1);
            CHECK.asked("one 1 at " + place, x, x.plan(8 + place), 1, 1);
        }
        CHECK.due("all 9", Make.ends(x, 9, 9, 9, 9, 9, 9, 9), 63);
        plans(x, 66, 6, 0, 0, 0, 0, 0, 0, 9, 9, 9, 9, 9, 9, 9);
        x.lay(0, 0, 1);
        CHECK.asked("the ENDS are their own", x, x.plan(8), 1, 9);
    }

    /** "BAD; NOTHING; SIZE ..; UNLIKE ..; NOUGHT ..": as listed. */
    private static void endsOrder() {
        TwoFliers x = new TwoFliers();
        Make.flight(x, 66, 0);
        Make.row(x, 1, 0, 0, 10);
        watch(x).finding("SIZE ahead of UNLIKE", () -> x.ends(1), Make.SIZE);
        Make.row(x, 1, 0, 0, 0);
        watch(x).finding("SIZE ahead of NOUGHT", () -> x.ends(1), Make.SIZE);
        x.row(1, 0);
        watch(x).finding("an empty row: SIZE ahead of NOUGHT", () -> x.ends(1), Make.SIZE);
        Make.row(x, 1, 1, -1);
        watch(x).finding("UNLIKE ahead of NOUGHT", () -> x.ends(1), Make.UNLIKE);
        Make.row(x, 1, LEAST, LEAST);
        watch(x).finding("UNLIKE, whatever they are together", () -> x.ends(1), Make.UNLIKE);
    }

    /** "The COURSE of hour h (0: the first) is a SIDE: what it was. BAD." */
    private static void courseBounds() {
        TwoFliers x = new TwoFliers();
        watch(x).bad("no hours", () -> x.course(0, 0));
        Make.flight(x, 66, 1, 2, 3);
        Make.ends(x, 4, 3, 2, 1);
        for (int h : new int[] {-1, 3, 4, 5, 6, LEAST, MOST}) {
            watch(x).bad("hour " + h, () -> x.course(h, 0));
        }
        for (int side : new int[] {-1, 8, -9, LEAST, MOST}) {
            watch(x).bad("side " + side, () -> x.course(0, side));
        }
        watch(x).changes("the first hour", () -> x.course(0, 7), 1);
        watch(x).changes("the last hour", () -> x.course(2, 0), 3);
        watch(x).same("the same side", () -> x.course(1, 2), 2);
        plans(x, 66, 3, 7, 2, 0, -9, -9, -9, 4, 3, 2, 1, -9, -9, -9);
        Make.flight(x, 66, 1, 2, 3, 4, 5, 6);
        watch(x).changes("hour 5 of six", () -> x.course(5, 0), 6);
        watch(x).bad("hour 6 of six", () -> x.course(6, 0));
    }

    /** "0 its CELL, 1 how many hours, 2 to 7 COURSES .. (NONE), 8 to 14 ENDS .. (NONE), told by asked(): 1. BAD." */
    private static void planBounds() {
        TwoFliers x = new TwoFliers();
        x.near(2);
        for (int what : new int[] {-1, 15, 16, -9, LEAST, MOST}) {
            watch(x).bad("plan(" + what + ")", () -> x.plan(what));
        }
        watch(x).asks("no hours: no course", () -> x.plan(2), 1, -9);
        watch(x).asks("no hours: one end", () -> x.plan(8), 1, 1);
        watch(x).asks("no hours: no more ends", () -> x.plan(9), 1, -9);
        Make.flight(x, 119, 7);
        watch(x).asks("one hour: its course", () -> x.plan(2), 1, 7);
        watch(x).asks("one hour: no more courses", () -> x.plan(3), 1, -9);
        watch(x).asks("one hour: its last end", () -> x.plan(9), 1, 1);
        watch(x).asks("one hour: no more ends", () -> x.plan(10), 1, -9);
        Make.flight(x, 119, 1, 2, 3, 4, 5, 6);
        watch(x).asks("six hours: the last course", () -> x.plan(7), 1, 6);
        watch(x).asks("six hours: the first end", () -> x.plan(8), 1, 0);
        watch(x).asks("six hours: the last end", () -> x.plan(14), 1, 1);
        watch(x).asks("its cell", () -> x.plan(0), 1, 119);
        watch(x).asks("its hours", () -> x.plan(1), 1, 6);
    }

    /** "of 4 ways 2 are to the next CELL on its COURSE, 1 to that on the SIDE ahead of it (7 ahead of 0), 1 to that behind it (0 behind 7)". */
    private static void spreadOnEachCourse() {
        int[] beside = {54, 55, 67, 79, 78, 77, 65, 53};
        for (int course = 0; course <= 7; course++) {
            TwoFliers x = new TwoFliers();
            Make.flight(x, 66, course);
            for (int side = 0; side <= 7; side++) {
                boolean onCourse = side == course;
                boolean next = side == (course + 1) % 8 || side == (course + 7) % 8;
                where(x, beside[side], onCourse || next ? 1 : 0, onCourse ? 2 : next ? 4 : 1);
            }
            where(x, 66, 0, 1);
        }
    }

    /** "out of the map it stays": on each edge and in each corner. */
    private static void staysOutOfTheMap() {
        int[][] known = {
            // from, course, then CELLS with their ways of 4
            {6, 0, 6, 4}, {6, 1, 6, 3, 7, 1}, {6, 2, 7, 2, 6, 1, 19, 1}, {6, 7, 6, 3, 5, 1},
            {114, 4, 114, 4}, {114, 3, 114, 3, 115, 1}, {114, 5, 114, 3, 113, 1}, {114, 6, 113, 2, 114, 1, 101, 1},
            {60, 6, 60, 4}, {60, 7, 60, 3, 48, 1}, {60, 5, 60, 3, 72, 1}, {60, 0, 48, 2, 60, 1, 49, 1},
            {71, 2, 71, 4}, {71, 1, 71, 3, 59, 1}, {71, 3, 71, 3, 83, 1}, {71, 4, 83, 2, 71, 1, 82, 1},
            {0, 0, 0, 4}, {0, 7, 0, 4}, {0, 6, 0, 4}, {0, 3, 13, 2, 1, 1, 12, 1}, {0, 5, 0, 3, 12, 1},
            {11, 1, 11, 4}, {11, 0, 11, 4}, {11, 2, 11, 4}, {11, 5, 22, 2, 23, 1, 10, 1},
            {108, 5, 108, 4}, {108, 4, 108, 4}, {108, 6, 108, 4}, {108, 1, 97, 2, 96, 1, 109, 1},
            {119, 3, 119, 4}, {119, 2, 119, 4}, {119, 4, 119, 4}, {119, 7, 106, 2, 107, 1, 118, 1}};
        for (int[] k : known) {
            TwoFliers x = new TwoFliers();
            Make.flight(x, k[0], k[1]);
            for (int i = 2; i < k.length; i += 2) {
                int ways = k[i + 1];
                where(x, k[i], ways == 3 ? 3 : 1, ways == 4 ? 1 : ways == 2 ? 2 : 4);
            }
        }
    }

    /** "how likely it ends at hour 0, 1, .. n (by that its ways to come are not looked at)". */
    private static void endsAreOdds() {
        TwoFliers x = new TwoFliers();
        Make.flight(x, 66, 2, 2);
        Make.ends(x, 3, 2, 4);
        CHECK.odds("hour 0", x, x.ended(0), 1, 1, 3);
        CHECK.odds("hour 1", x, x.ended(1), 1, 2, 9);
        CHECK.odds("hour 2", x, x.ended(2), 1, 4, 9);
        where(x, 66, 1, 3);
        where(x, 67, 1, 9);
        Make.ends(x, 9, 0, 0);
        where(x, 66, 1, 1);
        Make.ends(x, 0, 0, 9);
        where(x, 66, 0, 1);
        where(x, 68, 3, 8);
    }
}
