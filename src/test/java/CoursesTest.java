/** Promises 36 to 40: drags, changes of course, draws, images. */
public final class CoursesTest {
    private static final Check CHECK = new Check("CoursesTest");

    public static void main(String[] args) {
        drag();
        dragAlike();
        dragRefused();
        brought();
        broughtByTwo();
        draw();
        image();
        onUnlike();
        CHECK.end();
    }

    private static void sees(TwoFliers x, int r, int... values) {
        for (int i = 0; i < values.length; i++) {
            CHECK.asked("row " + r + " place " + i, x, x.at(r, i), 1, values[i]);
        }
        CHECK.finding("no more in row " + r, x, x.at(r, values.length), Make.BEYOND);
    }

    /** Promise 36. */
    private static void drag() {
        TwoFliers x = new TwoFliers();
        Make.story(x, 1, "r65:0=1 r67:0=5 r79:0=4");
        CHECK.odds("no hours", x, x.drag(1, 65, 0, 2), 1, 1, 10);
        sees(x, 2, 65);
        CHECK.odds("one hour, the first way", x, x.drag(1, 65, 1, 2), 2, 1, 10);
        sees(x, 2, 65, 52);
        CHECK.odds("two hours", x, x.drag(1, 65, 2, 2), 3, 3, 5);
        sees(x, 2, 65, 54, 67);
        CHECK.odds("three hours", x, x.drag(1, 65, 3, 2), 4, 1, 1);
        sees(x, 2, 65, 54, 67, 79);
        CHECK.odds("four hours", x, x.drag(1, 65, 4, 2), 5, 1, 1);
        sees(x, 2, 65, 53, 54, 67, 79);
    }

    /** Of alike ways the first by CELLS, and a CELL counts once. */
    private static void dragAlike() {
        TwoFliers x = new TwoFliers();
        Make.story(x, 1, "r119:0=9");
        CHECK.odds("nothing in reach", x, x.drag(1, 0, 2, 3), 1, 0, 1);
        sees(x, 3, 0, 0, 0);
        CHECK.odds("nothing in reach from the middle", x, x.drag(1, 66, 3, 3), 4, 0, 1);
        sees(x, 3, 66, 53, 40, 27);
        CHECK.odds("counts once", x, x.drag(1, 119, 4, 3), 5, 1, 1);
        sees(x, 3, 119, 106, 93, 80, 67);
        Make.story(x, 1, "r0:0=9 r13:0=9");
        CHECK.odds("there and back", x, x.drag(1, 0, 2, 3), 2, 1, 1);
        sees(x, 3, 0, 0, 13);
    }

    private static void dragRefused() {
        TwoFliers x = new TwoFliers();
        CHECK.due("no story", x.drag(4, 0, 0, 0), TwoFliers.BAD);
        CHECK.due("no story", x.drag(-1, 0, 0, 0), TwoFliers.BAD);
        CHECK.due("no cell", x.drag(0, 120, 0, 0), TwoFliers.BAD);
        CHECK.due("5 hours", x.drag(0, 0, 5, 0), TwoFliers.BAD);
        CHECK.due("-1 hours", x.drag(0, 0, -1, 0), TwoFliers.BAD);
        CHECK.due("no row", x.drag(0, 0, 0, 6), TwoFliers.BAD);
        CHECK.finding("NOTHING", x, x.drag(1, 0, 0, 0), Make.NOTHING);
        CHECK.due("no row was made", x.count(5), 0);
        CHECK.due("the row need not be there", x.drag(0, 0, 0, 5), 1);
        CHECK.due("it is now", x.count(5), 1);
    }

    /** Promise 37. */
    private static void brought() {
        TwoFliers x = new TwoFliers();
        CHECK.due("no cell", x.brought(120, 0), TwoFliers.BAD);
        CHECK.due("no cell", x.brought(-1, 0), TwoFliers.BAD);
        CHECK.due("d 6", x.brought(0, 6), TwoFliers.BAD);
        CHECK.due("d -1", x.brought(0, -1), TwoFliers.BAD);
        CHECK.asked("no hours, there", x, x.brought(0, 0), 0, 0);
        x.near(2);
        CHECK.asked("no hours, not there", x, x.brought(2, 1), TwoFliers.NONE, 4);
        CHECK.asked("no hours, near", x, x.brought(2, 2), 0, 0);
        Make.flight(x, 60, 2, 2, 2);
        CHECK.asked("on its way", x, x.brought(62, 0), 0, 0);
        CHECK.asked("at last", x, x.brought(63, 0), 0, 0);
        CHECK.asked("one, the first hour and side", x, x.brought(51, 0), 1, 1);
        CHECK.asked("one, north", x, x.brought(50, 0), 1, 0);
        CHECK.asked("one, south", x, x.brought(75, 0), 1, 3);
        CHECK.asked("one, on the way", x, x.brought(73, 0), 1, 3);
        CHECK.asked("one within 1", x, x.brought(87, 1), 1, 3);
        Make.flight(x, 60, 2, 2, 4);
        CHECK.asked("one in the last hour", x, x.brought(63, 0), 1, 22);
        CHECK.asked("one in the middle hour", x, x.brought(85, 0), 1, 4);
        Make.flight(x, 60, 6, 2, 2);
        CHECK.asked("one in the middle hour", x, x.brought(48, 0), 1, 0);
        Make.flight(x, 0, 0, 0);
        CHECK.asked("it stays out of the map", x, x.brought(13, 0), 1, 3);
    }

    private static void broughtByTwo() {
        TwoFliers x = new TwoFliers();
        Make.flight(x, 66, 2, 2);
        CHECK.asked("both hours", x, x.brought(42, 0), 2, 0 + 100 + 1000);
        CHECK.asked("both hours, north-west", x, x.brought(40, 0), 2, 7 + 100 + 1000 + 700);
        CHECK.asked("south-east twice", x, x.brought(92, 0), 2, 3 + 100 + 1000 + 300);
        CHECK.asked("two do not do", x, x.brought(30, 0), TwoFliers.NONE, 3 + 100 + 1000 + 300);
        CHECK.due("a finding is none of it", x.finding(), 0);
        Make.flight(x, 66, 2, 2, 4);
        CHECK.asked("the earlier one first", x, x.brought(41, 0), 2, 0 + 100 + 1000 + 700);
    }

    /** Promise 38. */
    private static void draw() {
        TwoFliers x = new TwoFliers();
        CHECK.due("no hours", x.draw(2147483646, 0), 2147483646);
        sees(x, 0, 0);
        Make.flight(x, 66, 0, 0, 0, 0, 0);
        // 48271 % 4 = 3, 182605794 % 4 = 2, 1291394886 % 4 = 2, 1914720637 % 4 = 1, 2078669041 % 4 = 1
        CHECK.due("seed 1", x.draw(1, 1), 2078669041);
        sees(x, 1, 66, 55, 42, 29, 17, 5);
        Make.flight(x, 1, 7, 7);
        CHECK.due("out of the map it stays", x.draw(1, 1), 182605794);
        sees(x, 1, 1, 1, 0);
        CHECK.due("seed 0", x.draw(0, 1), TwoFliers.BAD);
        CHECK.due("seed -1", x.draw(-1, 1), TwoFliers.BAD);
        CHECK.due("seed 2147483647", x.draw(2147483647, 1), TwoFliers.BAD);
        CHECK.due("no row", x.draw(1, 6), TwoFliers.BAD);
        CHECK.due("no row", x.draw(1, -1), TwoFliers.BAD);
        sees(x, 1, 1, 1, 0);
    }

    /** Promises 39, 40. */
    private static void image() {
        TwoFliers x = new TwoFliers();
        CHECK.due("no row", x.image(6), TwoFliers.BAD);
        CHECK.due("no row", x.on(6), TwoFliers.BAD);
        CHECK.finding("NOTHING", x, x.on(3), Make.NOTHING);
        x.row(3, 15);
        CHECK.finding("15", x, x.on(3), Make.SIZE);
        x.row(3, 17);
        CHECK.finding("17", x, x.on(3), Make.SIZE);
        Make.flight(x, 66, 1, 2, 3);
        Make.ends(x, 1, 0, 4, 9);
        x.sign(0, 0, 0, 0);
        x.sign(5, 0, 0, 0);
        x.sign(4, 0, 0, 0);
        x.undo(0, 1);
        x.undo(2, 1);
        CHECK.due("image", x.image(3), 16);
        sees(x, 3, 66, 3, 1, 2, 3, -9, -9, -9, 1, 0, 4, 9, -9, -9, -9, 5);
        long was = x.digest();
        x.undo(0, 0);
        x.undo(1, 1);
        x.course(1, 7);
        Make.row(x, 0, 1, 0, 4, 9);
        x.row(1, 2);
        x.flight(0, 1);
        x.tear(1);
        CHECK.due("on", x.on(3), 1);
        CHECK.due("all is as it was", x.digest(), was);
        x.row(1, 6);
        x.flight(0, 1);
        x.tear(1);
        CHECK.due("on from more hours", x.on(3), 1);
        CHECK.due("all is as it was", x.digest(), was);
        x.sign(6, 0, 0, 0);
        x.undo(3, 1);
        CHECK.due("with a later sign", x.on(3), 1);
        CHECK.asked("it is not UNDONE", x, x.told(3, 4), 1, 0);
    }

    private static void onUnlike() {
        int[] image = {66, 3, 1, 2, 3, -9, -9, -9, 1, 0, 4, 9, -9, -9, -9, 3};
        int[][] wrong = {
            {0, -1}, {0, 120}, {1, -1}, {1, 7}, {1, 2}, {1, 4}, {2, -1}, {4, 8}, {4, -9}, {5, 0}, {7, -1}, {7, 0},
            {8, -1}, {8, 10}, {11, -9}, {11, 10}, {12, 0}, {14, 0}, {14, -1}, {15, -1}, {15, 4}, {15, -2147483648}};
        for (int[] w : wrong) {
            TwoFliers x = new TwoFliers();
            x.sign(0, 0, 0, 0);
            x.sign(0, 0, 0, 0);
            int[] changed = image.clone();
            changed[w[0]] = w[1];
            Make.row(x, 2, changed);
            long was = x.digest();
            CHECK.finding("place " + w[0] + " is " + w[1], x, x.on(2), Make.UNLIKE);
            CHECK.due("nothing changed", x.digest(), was);
        }
        TwoFliers x = new TwoFliers();
        x.sign(0, 0, 0, 0);
        x.sign(0, 0, 0, 0);
        Make.row(x, 2, 66, 1, 1, -9, -9, -9, -9, -9, 0, 0, -9, -9, -9, -9, -9, 0);
        CHECK.finding("all ENDS 0", x, x.on(2), Make.UNLIKE);
        Make.row(x, 2, image);
        CHECK.due("as it should be", x.on(2), 1);
        CHECK.due("both UNDONE", x.count(4), 2);
        Make.row(x, 2, 119, 6, 7, 7, 7, 7, 7, 7, 9, 9, 9, 9, 9, 9, 9, 0);
        CHECK.due("the most", x.on(2), 1);
        CHECK.due("none UNDONE", x.count(4), 0);
        CHECK.due("six hours", x.count(0), 6);
    }
}
