/** Promises 10 to 17: flights, stories by texts, FAR and SIDES. */
public final class FlightTest {
    private static final Check CHECK = new Check("FlightTest");

    public static void main(String[] args) {
        flight();
        ends();
        courseAndPlan();
        faults();
        stories();
        far();
        CHECK.end();
    }

    private static void sees(TwoFliers x, int... plan) {
        for (int what = 0; what < plan.length; what++) {
            CHECK.asked("plan(" + what + ")", x, x.plan(what), 1, plan[what]);
        }
    }

    /** Promise 10. */
    private static void flight() {
        TwoFliers x = new TwoFliers();
        CHECK.due("no cell", x.flight(120, 0), TwoFliers.BAD);
        CHECK.due("no cell", x.flight(-1, 0), TwoFliers.BAD);
        CHECK.due("no row", x.flight(0, 6), TwoFliers.BAD);
        CHECK.finding("NOTHING", x, x.flight(0, 0), Make.NOTHING);
        CHECK.due("three hours", Make.flight(x, 119, 0, 7, 3), 3);
        sees(x, 119, 3, 0, 7, 3, -9, -9, -9, 0, 0, 0, 1, -9, -9, -9);
        CHECK.due("ends", Make.ends(x, 9, 1, 0, 0), 10);
        CHECK.finding("no side", x, Make.flight(x, 5, 0, 8), Make.UNLIKE);
        CHECK.finding("no side below", x, Make.flight(x, 5, -1), Make.UNLIKE);
        CHECK.finding("seven hours, ahead of no side", x, Make.flight(x, 5, 9, 0, 0, 0, 0, 0, 0), Make.SIZE);
        sees(x, 119, 3, 0, 7, 3, -9, -9, -9, 9, 1, 0, 0, -9, -9, -9);
        CHECK.due("six hours", Make.flight(x, 5, 1, 2, 3, 4, 5, 6), 6);
        sees(x, 5, 6, 1, 2, 3, 4, 5, 6, 0, 0, 0, 0, 0, 0, 1);
        CHECK.due("no hours", Make.flight(x, 7), 0);
        sees(x, 7, 0, -9, -9, -9, -9, -9, -9, 1, -9, -9, -9, -9, -9, -9);
    }

    /** Promise 11. */
    private static void ends() {
        TwoFliers x = new TwoFliers();
        CHECK.due("no row", x.ends(6), TwoFliers.BAD);
        CHECK.finding("NOTHING", x, x.ends(0), Make.NOTHING);
        Make.flight(x, 50, 2, 2);
        CHECK.finding("too few", x, Make.ends(x, 1, 1), Make.SIZE);
        CHECK.finding("too many, ahead of UNLIKE", x, Make.ends(x, 1, 1, 1, 10), Make.SIZE);
        CHECK.finding("above 9", x, Make.ends(x, 1, 10, 0), Make.UNLIKE);
        CHECK.finding("below 0", x, Make.ends(x, 1, -1, 0), Make.UNLIKE);
        CHECK.finding("all 0", x, Make.ends(x, 0, 0, 0), Make.NOUGHT);
        sees(x, 50, 2, 2, 2, -9, -9, -9, -9, 0, 0, 1);
        CHECK.due("all together", Make.ends(x, 9, 0, 8), 17);
        sees(x, 50, 2, 2, 2, -9, -9, -9, -9, 9, 0, 8, -9);
    }

    /** Promises 12, 13. */
    private static void courseAndPlan() {
        TwoFliers x = new TwoFliers();
        CHECK.due("no hour", x.course(0, 0), TwoFliers.BAD);
        Make.flight(x, 50, 2, 3);
        CHECK.due("course", x.course(1, 7), 3);
        CHECK.due("course again", x.course(1, 0), 7);
        CHECK.due("hour 2", x.course(2, 0), TwoFliers.BAD);
        CHECK.due("hour -1", x.course(-1, 0), TwoFliers.BAD);
        CHECK.due("side 8", x.course(0, 8), TwoFliers.BAD);
        CHECK.due("side -1", x.course(0, -1), TwoFliers.BAD);
        sees(x, 50, 2, 2, 0, -9);
        CHECK.due("plan -1", x.plan(-1), TwoFliers.BAD);
        CHECK.due("plan 15", x.plan(15), TwoFliers.BAD);
        CHECK.due("asked stays", x.asked(), -9);
        CHECK.due("BAD is no finding", x.finding(), 0);
    }

    private static void fault(String text, int want) {
        TwoFliers x = new TwoFliers();
        Make.text(x, 1, text);
        CHECK.due("fault of '" + text + "'", x.fault(1), want);
        CHECK.due("story of '" + text + "'", Math.min(x.story(2, 1), 0), want == -9 ? 0 : TwoFliers.STATE);
        CHECK.due("stories of '" + text + "'", x.count(1), want == -9 ? 1 : 0);
    }

    /** Promise 14. */
    private static void faults() {
        TwoFliers x = new TwoFliers();
        CHECK.due("no text", x.fault(4), TwoFliers.BAD);
        CHECK.due("no text", x.fault(-1), TwoFliers.BAD);
        CHECK.finding("NOTHING", x, x.fault(3), Make.NOTHING);
        fault("", -9);
        fault("   ", -9);
        fault("a=0", -9);
        fault("  a=99a=1  r000:0=0 l119:7=9 ", -9);
        fault("a =1", 1);
        fault("a= 1", 2);
        fault("a=1 0", 4);
        fault("a=123", 4);
        fault("a=x", 2);
        fault("A=1", 0);
        fault("  b", 2);
        fault("r:1=1", 1);
        fault("rx", 1);
        fault("r1=1", 2);
        fault("r119:1=1", -9);
        fault("r120:1=1", 4);
        fault("r120", 4);
        fault("r999", 4);
        fault("r0119:1=1", 4);
        fault("r12", 3);
        fault("r1:", 3);
        fault("r1:x", 3);
        fault("r1:10=1", 4);
        fault("r1:9=", 5);
        fault("r1:9=a", 5);
        fault("r1:9 =1", 4);
        fault("l7:7=1", -9);
        fault("l7:8=1", 3);
        fault("l7:9", 3);
        fault("l120:9=1", 4);
        fault("l7:7=1l7:7=1l", 13);
        fault("r5:5=55a", 8);
        fault("a=1" + (char) 0, 3);
        fault("a=1" + (char) 160, 3);
        String blanks = " ".repeat(77);
        fault(blanks + "   ", -9);
        fault(blanks + "a=1", -9);
        fault(blanks + "=a=", 77);
        fault(blanks + " a=", 80);
        fault(blanks + "  a", 80);
        fault(blanks + "  r", 80);
        fault(blanks + " l9", 80);
        fault(blanks + "r9:", 80);
        fault(blanks + "120", 77);
    }

    /** Promises 15, 16. */
    private static void stories() {
        TwoFliers x = new TwoFliers();
        CHECK.due("story 0", x.story(0, 0), TwoFliers.BAD);
        CHECK.due("story 4", x.story(4, 0), TwoFliers.BAD);
        CHECK.due("text 4", x.story(1, 4), TwoFliers.BAD);
        CHECK.due("text -1", x.story(1, -1), TwoFliers.BAD);
        CHECK.finding("story NOTHING", x, x.story(1, 0), Make.NOTHING);
        CHECK.due("lies 0", x.lies(0, 0), TwoFliers.BAD);
        CHECK.due("lies 4", x.lies(4, 0), TwoFliers.BAD);
        CHECK.due("lies cell", x.lies(1, 120), TwoFliers.BAD);
        CHECK.due("lies cell below", x.lies(1, -1), TwoFliers.BAD);
        CHECK.finding("lies NOTHING", x, x.lies(1, 0), Make.NOTHING);

        CHECK.due("items", Make.story(x, 1, "a=3 r0:1=9l13:3=20 r39:0=0"), 4);
        lies(x, 1, 0, 9);
        lies(x, 1, 1, 9);
        lies(x, 1, 12, 9);
        lies(x, 1, 13, 20);
        lies(x, 1, 2, 3);
        lies(x, 1, 26, 20);
        lies(x, 1, 39, 0);
        lies(x, 1, 117, 20);
        lies(x, 1, 118, 3);
        CHECK.due("STATE", Make.story(x, 1, "a=4 a"), TwoFliers.STATE);
        CHECK.due("STATE is no finding", x.findings(3), 0);
        lies(x, 1, 2, 3);
        CHECK.due("anew", Make.story(x, 1, "l11:6=1"), 1);
        lies(x, 1, 11, 1);
        lies(x, 1, 0, 1);
        lies(x, 1, 12, 0);
        x.text(0, 1);
        lies(x, 1, 11, 1);
        CHECK.due("none", x.story(3, 0), 0);
        lies(x, 3, 60, 0);
        CHECK.due("stories", x.count(1), 2);
        CHECK.due("round all", Make.story(x, 2, "r65:9=7"), 1);
        lies(x, 2, 119, 7);
        lies(x, 2, 0, 7);
        CHECK.due("round", Make.story(x, 2, "r60:2=7"), 1);
        lies(x, 2, 62, 7);
        lies(x, 2, 63, 0);
        lies(x, 2, 71, 0);
        lies(x, 2, 86, 7);
    }

    private static void lies(TwoFliers x, int k, int cell, int want) {
        CHECK.due("lies(" + k + ", " + cell + ")", x.lies(k, cell), want);
    }

    /** Promise 17. */
    private static void far() {
        TwoFliers x = new TwoFliers();
        CHECK.due("no cell", x.far(-1, 0), TwoFliers.BAD);
        CHECK.due("no other cell", x.far(0, 120), TwoFliers.BAD);
        int[][] known = {
            // cell, other, FAR, SIDE
            {66, 54, 1, 0}, {66, 55, 1, 1}, {66, 67, 1, 2}, {66, 79, 1, 3}, {66, 78, 1, 4}, {66, 77, 1, 5},
            {66, 65, 1, 6}, {66, 53, 1, 7}, {66, 66, 0, -9}, {66, 80, 2, 2}, {66, 91, 2, 4}, {66, 93, 3, 3},
            {66, 92, 2, 3}, {66, 52, 2, 6}, {66, 43, 2, 0}, {66, 41, 2, 0}, {66, 27, 3, 7}, {0, 119, 11, 3},
            {119, 0, 11, 7}, {11, 108, 11, 5}, {108, 11, 11, 1}, {0, 108, 9, 4}};
        for (int[] k : known) {
            CHECK.asked("far(" + k[0] + ", " + k[1] + ")", x, x.far(k[0], k[1]), k[2], k[3]);
        }
    }
}
