/** Promises 18 to 24: signs. */
public final class SignsTest {
    private static final Check CHECK = new Check("SignsTest");

    public static void main(String[] args) {
        edges();
        full();
        byRows();
        undoAndTold();
        marks();
        weighs();
        near();
        CHECK.end();
    }

    /** Promise 18: each number at its edges, for each KIND; {kind, least a, most a, least b, most b, most c}. */
    private static void edges() {
        int[][] kinds = {{1, 6, 119, 5}, {2, 6, 119, 5}, {4, 119, 119, 12}, {5, 119, 7, 12}, {6, 119, 7, 12}, {7, 119, 9, 12}};
        for (int[] k : kinds) {
            TwoFliers x = new TwoFliers();
            CHECK.due("least of " + k[0], x.sign(k[0], 0, 0, 0), 0);
            CHECK.due("most of " + k[0], x.sign(k[0], k[1], k[2], k[3]), 1);
            CHECK.due("a below of " + k[0], x.sign(k[0], -1, 0, 0), TwoFliers.BAD);
            CHECK.due("b below of " + k[0], x.sign(k[0], 0, -1, 0), TwoFliers.BAD);
            CHECK.due("c below of " + k[0], x.sign(k[0], 0, 0, -1), TwoFliers.BAD);
            CHECK.due("a above of " + k[0], x.sign(k[0], k[1] + 1, 0, 0), TwoFliers.BAD);
            CHECK.due("b above of " + k[0], x.sign(k[0], 0, k[2] + 1, 0), TwoFliers.BAD);
            CHECK.due("c above of " + k[0], x.sign(k[0], 0, 0, k[3] + 1), TwoFliers.BAD);
            CHECK.due("signs of " + k[0], x.count(2), 2);
        }
        TwoFliers x = new TwoFliers();
        CHECK.due("burnt", x.sign(3, 6, -5, 999), 0);
        CHECK.due("burnt above", x.sign(3, 7, 0, 0), TwoFliers.BAD);
        CHECK.due("burnt below", x.sign(3, -1, 0, 0), TwoFliers.BAD);
        CHECK.due("note", x.sign(0, -5, 777, 13), 1);
        CHECK.due("kind 8", x.sign(8, 0, 0, 0), TwoFliers.BAD);
        CHECK.due("kind -1", x.sign(-1, 0, 0, 0), TwoFliers.BAD);
        tells(x, 0, 3, 6, 0, 0, 0);
        tells(x, 1, 0, 0, 0, 0, 0);
    }

    private static void tells(TwoFliers x, int e, int... numbers) {
        for (int what = 0; what < numbers.length; what++) {
            CHECK.asked("told(" + e + ", " + what + ")", x, x.told(e, what), 1, numbers[what]);
        }
    }

    private static void full() {
        TwoFliers x = new TwoFliers();
        for (int e = 0; e < 12; e++) {
            CHECK.due("sign " + e, x.sign(e % 8, 1, 1, 1), e);
        }
        CHECK.due("FULL", x.sign(0, 0, 0, 0), TwoFliers.FULL);
        CHECK.due("BAD ahead of FULL", x.sign(8, 0, 0, 0), TwoFliers.BAD);
        CHECK.due("FULL is no finding", x.finding(), 0);
        x.undo(0, 1);
        CHECK.due("FULL with an UNDONE one, too", x.sign(0, 0, 0, 0), TwoFliers.FULL);
    }

    /** Promise 19. */
    private static void byRows() {
        TwoFliers x = new TwoFliers();
        CHECK.due("no row", x.signs(6), TwoFliers.BAD);
        CHECK.finding("NOTHING", x, x.signs(0), Make.NOTHING);
        Make.row(x, 0, 1, 2, 3);
        CHECK.finding("not by fours", x, x.signs(0), Make.SIZE);
        Make.row(x, 0, 1, 6, 119, 5, 3, 4, 9, 9);
        CHECK.due("two", x.signs(0), 2);
        tells(x, 0, 1, 6, 119, 5, 0);
        tells(x, 1, 3, 4, 0, 0, 0);
        Make.row(x, 0, 0, 0, 0, 0, 1, 7, 0, 0);
        CHECK.finding("UNLIKE", x, x.signs(0), Make.UNLIKE);
        CHECK.due("none of them", x.count(2), 2);
        x.row(0, 0);
        CHECK.due("none", x.signs(0), 0);
        x.row(0, 40);
        CHECK.due("ten notes", x.signs(0), 10);
        Make.row(x, 0, 8, 0, 0, 0);
        CHECK.due("FULL ahead of UNLIKE", x.signs(0), TwoFliers.FULL);
        Make.row(x, 0, 8, 0, 0, 0, 0);
        CHECK.finding("SIZE ahead of FULL", x, x.signs(0), Make.SIZE);
        x.row(0, 0);
        CHECK.due("none when full", x.signs(0), 0);
        TwoFliers y = new TwoFliers();
        for (int e = 0; e < 11; e++) {
            y.sign(0, 0, 0, 0);
        }
        y.row(0, 8);
        CHECK.due("not all would go", y.signs(0), TwoFliers.FULL);
        CHECK.due("so none went", y.count(2), 11);
        y.row(0, 4);
        CHECK.due("the last goes", y.signs(0), 1);
    }

    /** Promises 20, 21. */
    private static void undoAndTold() {
        TwoFliers x = new TwoFliers();
        CHECK.due("no sign", x.undo(0, 0), TwoFliers.BAD);
        CHECK.due("no sign told", x.told(0, 0), TwoFliers.BAD);
        x.sign(5, 60, 2, 12);
        CHECK.due("undo", x.undo(0, 1), 0);
        tells(x, 0, 5, 60, 2, 12, 1);
        CHECK.due("undo again", x.undo(0, 1), 1);
        CHECK.due("not undone", x.undo(0, 0), 1);
        tells(x, 0, 5, 60, 2, 12, 0);
        CHECK.due("is 2", x.undo(0, 2), TwoFliers.BAD);
        CHECK.due("is -1", x.undo(0, -1), TwoFliers.BAD);
        CHECK.due("sign 1", x.undo(1, 0), TwoFliers.BAD);
        CHECK.due("sign -1", x.undo(-1, 0), TwoFliers.BAD);
        CHECK.due("told 5", x.told(0, 5), TwoFliers.BAD);
        CHECK.due("told -1", x.told(0, -1), TwoFliers.BAD);
        CHECK.due("told sign 1", x.told(1, 0), TwoFliers.BAD);
    }

    /** Promise 22. */
    private static void marks() {
        TwoFliers x = new TwoFliers();
        CHECK.due("no sign", x.mark(0, 1), TwoFliers.BAD);
        x.sign(0, 0, 0, 0);
        x.sign(1, 2, 60, 3);
        x.sign(2, 2, 0, 2);
        x.sign(3, 4, 0, 0);
        x.sign(4, 40, 15, 0);
        x.sign(5, 60, 7, 4);
        x.sign(6, 60, 6, 9);
        x.sign(7, 119, 1, 3);
        int[] due = {0, 1, 9, 4, 6, 7, 9, 4};
        for (int e = 0; e <= 7; e++) {
            for (int kind = 1; kind <= 7; kind++) {
                if (kind == e) {
                    CHECK.due("mark of " + e, x.mark(e, kind), due[e]);
                } else if (e == 6 && kind == 5) {
                    CHECK.due("made is a voice", x.mark(e, kind), 6);
                } else {
                    CHECK.finding("mark(" + e + ", " + kind + ")", x, x.mark(e, kind), Make.UNLIKE);
                }
            }
            CHECK.due("kind 0", x.mark(e, 0), TwoFliers.BAD);
            CHECK.due("kind 8", x.mark(e, 8), TwoFliers.BAD);
        }
        CHECK.due("sign 8", x.mark(8, 1), TwoFliers.BAD);
        x.undo(4, 1);
        CHECK.due("an UNDONE one is of its KIND", x.mark(4, 4), 6);
        x.sign(7, 119, 1, 0);
        CHECK.due("found, but theirs by none", x.mark(8, 7), 120);
        CHECK.due("saw the first corner", x.mark(x.sign(4, 0, 13, 12), 4), 4);
        int[] least = {4, 3, 2, 1, 0, 0};
        for (int loud = 0; loud <= 1; loud++) {
            CHECK.due("heard " + loud, x.mark(x.sign(1, 0, 66, loud), 1), least[loud]);
        }
    }

    private static void weigh(int kind, int a, int b, int c, int[]... known) {
        TwoFliers x = new TwoFliers();
        x.sign(kind, a, b, c);
        for (int undone = 0; undone <= 1; undone++) {
            x.undo(0, undone);
            for (int[] k : known) {
                CHECK.due("kind " + kind + " weighs(" + k[0] + ")", x.weighs(0, k[0]), k[1]);
            }
        }
        CHECK.due("cell -1", x.weighs(0, -1), TwoFliers.BAD);
        CHECK.due("cell 120", x.weighs(0, 120), TwoFliers.BAD);
        CHECK.due("sign 1", x.weighs(1, 0), TwoFliers.BAD);
    }

    private static int[] of(int cell, int weight) {
        return new int[] {cell, weight};
    }

    /** Promise 23. */
    private static void weighs() {
        weigh(0, 0, 0, 0, of(0, 12), of(119, 12));
        weigh(1, 0, 60, 5, of(60, 12), of(61, 8), of(62, 4), of(63, 1), of(64, 0), of(65, 0), of(71, 0));
        weigh(1, 0, 60, 2, of(60, 1), of(61, 4), of(62, 8), of(63, 12), of(64, 8), of(65, 4), of(66, 4), of(71, 4));
        weigh(1, 0, 60, 0, of(60, 0), of(61, 0), of(62, 1), of(63, 4), of(64, 8), of(65, 12), of(71, 12));
        weigh(2, 0, 60, 2, of(60, 12), of(62, 12), of(63, 4), of(65, 4), of(66, 1), of(71, 1));
        weigh(2, 0, 60, 0, of(60, 12), of(61, 4), of(62, 1));
        weigh(3, 3, 0, 0, of(0, 0), of(1, 2), of(2, 6), of(3, 12), of(4, 6), of(5, 2), of(6, 0), of(7, -1));
        weigh(4, 40, 15, 5, of(15, 7), of(16, 7), of(40, 7), of(27, 7), of(14, 12), of(17, 12), of(3, 12), of(52, 12));
        weigh(4, 15, 40, 12, of(15, 0), of(28, 0), of(41, 12), of(4, 12));
        weigh(4, 16, 39, 1, of(15, 11), of(16, 11), of(39, 11), of(40, 11), of(41, 12), of(14, 12), of(51, 12));
        weigh(5, 66, 2, 5, of(67, 12), of(80, 12), of(66, 7), of(65, 7), of(79, 7));
        weigh(6, 66, 2, 5, of(67, 12), of(66, 12), of(65, 12));
        weigh(7, 66, 1, 12, of(66, 12), of(53, 12), of(68, 0), of(0, 0));
        weigh(7, 66, 0, 3, of(66, 12), of(67, 9));
    }

    /** Promise 24. */
    private static void near() {
        TwoFliers x = new TwoFliers();
        int[][] due = {{4, 11}, {3, 11}, {2, 4}, {1, 3}, {0, 2}, {0, 1}};
        for (int loud = 0; loud <= 5; loud++) {
            CHECK.asked("near(" + loud + ")", x, x.near(loud), due[loud][0], due[loud][1]);
        }
        CHECK.due("loud 6", x.near(6), TwoFliers.BAD);
        CHECK.due("loud -1", x.near(-1), TwoFliers.BAD);
    }
}
