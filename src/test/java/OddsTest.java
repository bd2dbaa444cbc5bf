/** Promises 25 to 35: odds, worked out by hand on short flights and small stories. */
public final class OddsTest {
    private static final Check CHECK = new Check("OddsTest");

    public static void main(String[] args) {
        spread();
        atTheEdge();
        stories();
        hoursAndEnds();
        signsByHour();
        sure();
        falls();
        turns();
        truly();
        cross();
        likelier();
        line();
        refused();
        spent();
        nought();
        CHECK.end();
    }

    private static void where(TwoFliers x, int k, int cell, long up, long low) {
        CHECK.odds("where(" + k + ", " + cell + ")", x, x.where(k, cell), 1, up, low);
    }

    /** The SIDE ahead of 0 is 7, that behind 7 is 0. */
    private static void spread() {
        TwoFliers x = new TwoFliers();
        Make.flight(x, 66, 0);
        where(x, 0, 54, 1, 2);
        where(x, 0, 53, 1, 4);
        where(x, 0, 55, 1, 4);
        where(x, 0, 66, 0, 1);
        x.course(0, 7);
        where(x, 0, 53, 1, 2);
        where(x, 0, 65, 1, 4);
        where(x, 0, 54, 1, 4);
        Make.flight(x, 66, 2, 2);
        where(x, 0, 68, 3, 8);
    }

    private static void atTheEdge() {
        TwoFliers x = new TwoFliers();
        Make.flight(x, 0, 0);
        where(x, 0, 0, 1, 1);
        x.course(0, 1);
        where(x, 0, 0, 3, 4);
        where(x, 0, 1, 1, 4);
        x.course(0, 3);
        where(x, 0, 13, 1, 2);
        where(x, 0, 1, 1, 4);
        where(x, 0, 12, 1, 4);
        Make.flight(x, 119, 4);
        where(x, 0, 119, 1, 1);
    }

    /** Promises 25, 26 by texts. */
    private static void stories() {
        TwoFliers x = new TwoFliers();
        Make.story(x, 1, "r0:0=6 r119:0=6 r60:0=3");
        where(x, 1, 0, 2, 5);
        where(x, 1, 60, 1, 5);
        where(x, 1, 1, 0, 1);
        CHECK.odds("of alike ones the first", x, x.most(1), 0, 2, 5);
        x.sign(4, 0, 13, 12);
        CHECK.odds("looked at", x, x.most(1), 119, 2, 3);
        x.sign(1, 6, 60, 5);
        CHECK.odds("heard by the cell, whatever the hour", x, x.most(1), 60, 1, 1);
        x.sign(3, 6, 0, 0);
        CHECK.odds("fuel weighs 12 by a text", x, x.most(1), 60, 1, 1);
        x.undo(1, 1);
        CHECK.odds("UNDONE", x, x.most(1), 119, 2, 3);
    }

    /** Promises 28, 29. */
    private static void hoursAndEnds() {
        TwoFliers x = new TwoFliers();
        Make.flight(x, 66, 2, 2);
        Make.ends(x, 1, 0, 3);
        CHECK.odds("ended(0)", x, x.ended(0), 1, 1, 4);
        CHECK.odds("ended(1)", x, x.ended(1), 1, 0, 1);
        CHECK.odds("ended(2)", x, x.ended(2), 1, 3, 4);
        CHECK.odds("ended(6)", x, x.ended(6), 1, 0, 1);
        where(x, 0, 66, 1, 4);
        CHECK.odds("hour(0)", x, x.hour(0, 66), 1, 1, 1);
        CHECK.odds("hour(1)", x, x.hour(1, 67), 1, 3, 8);
        CHECK.odds("hour(1), ahead", x, x.hour(1, 55), 1, 3, 16);
        CHECK.odds("hour(1), not where it ended", x, x.hour(1, 66), 1, 0, 1);
        CHECK.odds("hour(2)", x, x.hour(2, 68), 1, 9, 32);
        CHECK.odds("hour(6)", x, x.hour(6, 68), 1, 0, 1);
        x.sign(3, 0, 0, 0);
        CHECK.odds("fuel", x, x.ended(0), 1, 2, 3);
        x.undo(0, 1);
        x.sign(3, 5, 0, 0);
        CHECK.finding("fuel for more hours than can be", x, x.ended(2), Make.NOUGHT);
    }

    private static void signsByHour() {
        TwoFliers x = new TwoFliers();
        Make.flight(x, 66, 2, 2);
        Make.ends(x, 1, 0, 1);
        x.sign(2, 1, 55, 0);
        // Ended ahead of it weighs 12: 16 * 12 = 192; on 67, 55, 79 at hour 1: (2 * 4 + 1 * 12 + 1 * 1) * 4 = 84.
        CHECK.odds("a fix at hour 1, ended ahead", x, x.ended(0), 1, 16, 23);
        CHECK.odds("a fix at hour 1", x, x.hour(1, 55), 1, 4, 23);
        x.undo(0, 1);
        x.sign(1, 0, 66, 4);
        CHECK.odds("heard at hour 0 weighs on all alike", x, x.ended(0), 1, 1, 2);
        x.sign(1, 3, 0, 5);
        CHECK.odds("heard when it had ended", x, x.ended(0), 1, 1, 2);
        x.sign(1, 2, 66, 5);
        // At hour 2 all are FAR 2 from 66: 4 of 12.
        CHECK.odds("heard at the last hour", x, x.ended(0), 1, 3, 4);
    }

    /** Promise 27. */
    private static void sure() {
        TwoFliers x = new TwoFliers();
        Make.story(x, 2, "r5:0=2 r7:0=2 r9:0=1");
        CHECK.asked("2 by 5", x, x.sure(2, 2, 5), 2, 5);
        CHECK.asked("1 by 5", x, x.sure(2, 1, 5), 3, 5);
        CHECK.asked("41 by 99", x, x.sure(2, 41, 99), 0, -9);
        CHECK.asked("39 by 99", x, x.sure(2, 39, 99), 2, 5);
        CHECK.asked("1 by 99", x, x.sure(2, 1, 99), 3, 5);
        CHECK.due("0 by 1", x.sure(2, 0, 1), TwoFliers.BAD);
        CHECK.due("1 by 0", x.sure(2, 1, 0), TwoFliers.BAD);
        CHECK.due("2 by 1", x.sure(2, 2, 1), TwoFliers.BAD);
        CHECK.due("1 by 100", x.sure(2, 1, 100), TwoFliers.BAD);
        CHECK.due("-2 by -1", x.sure(2, -2, -1), TwoFliers.BAD);
        CHECK.due("upper() was not told", x.upper(), 0);
    }

    /** Promise 30. */
    private static void falls() {
        TwoFliers x = new TwoFliers();
        Make.story(x, 1, "r0:0=1 r119:0=1");
        x.sign(4, 0, 0, 9);
        CHECK.odds("takes off", x, x.falls(1, 0, 0), 1, -3, 10);
        CHECK.odds("adds to", x, x.falls(1, 0, 119), 1, 3, 10);
        CHECK.odds("nothing", x, x.falls(1, 0, 60), 1, 0, 1);
        x.undo(0, 1);
        CHECK.odds("UNDONE is as a note", x, x.falls(1, 0, 0), 1, 0, 1);
        x.undo(0, 0);
        x.sign(4, 0, 119, 12);
        CHECK.finding("with it nothing is left", x, x.falls(1, 1, 0), Make.NOUGHT);
        CHECK.finding("nor without the other one", x, x.falls(1, 0, 0), Make.NOUGHT);
        x.undo(1, 1);
        x.sign(0, 0, 0, 0);
        CHECK.odds("a note", x, x.falls(1, 2, 0), 1, 0, 1);
        x.sign(6, 0, 0, 0);
        x.sign(6, 0, 0, 0);
        CHECK.due("three are not too many", x.falls(1, 0, 0), 1);
        x.sign(6, 0, 0, 0);
        CHECK.due("four are", x.falls(1, 0, 0), TwoFliers.SPENT);
        CHECK.finding("NOTHING ahead of SPENT", x, x.falls(2, 0, 0), Make.NOTHING);
        CHECK.due("no sign", x.falls(1, 6, 0), TwoFliers.BAD);
        CHECK.due("no sign -1", x.falls(1, -1, 0), TwoFliers.BAD);
        CHECK.due("no cell", x.falls(1, 0, 120), TwoFliers.BAD);
        CHECK.due("no story", x.falls(4, 0, 0), TwoFliers.BAD);
    }

    /** Promise 31. */
    private static void turns() {
        TwoFliers x = new TwoFliers();
        Make.story(x, 1, "r0:0=2 r119:0=1");
        CHECK.due("no signs", x.turns(1), 0);
        x.sign(0, 0, 0, 0);
        x.sign(4, 0, 0, 9);
        CHECK.due("looked at turns", x.turns(1), 2);
        x.sign(7, 119, 0, 2);
        CHECK.due("found does not", x.turns(1), 2);
        x.sign(7, 119, 0, 11);
        CHECK.due("any one of two can be missed", x.turns(1), 0);
        x.undo(1, 1);
        CHECK.due("UNDONE", x.turns(1), 8);
        x.sign(4, 0, 119, 12);
        CHECK.due("all WEIGHT was 0, and is not", x.turns(1), 16);
        x.sign(4, 0, 119, 12);
        CHECK.due("all WEIGHT was 0, and is", x.turns(1), 0);
        CHECK.due("without NOUGHT", x.finding(), 0);
        CHECK.finding("NOTHING", x, x.turns(2), Make.NOTHING);
        CHECK.due("no story", x.turns(-1), TwoFliers.BAD);
        CHECK.due("no story", x.turns(4), TwoFliers.BAD);
    }

    /** Promise 32. */
    private static void truly() {
        TwoFliers x = new TwoFliers();
        Make.story(x, 1, "r66:0=1 r67:0=2 r79:0=4");
        x.sign(5, 66, 2, 0);
        x.sign(6, 66, 3, 12);
        x.sign(4, 67, 67, 12);
        x.undo(2, 1);
        CHECK.odds("a voice", x, x.truly(1, 0), 1, 2, 7);
        CHECK.odds("a made one", x, x.truly(1, 1), 1, 4, 7);
        x.undo(0, 1);
        CHECK.odds("an UNDONE one", x, x.truly(1, 0), 1, 2, 7);
        x.undo(2, 0);
        CHECK.odds("nobody is there", x, x.truly(1, 0), 1, 0, 1);
        CHECK.finding("no voice", x, x.truly(1, 2), Make.UNLIKE);
        CHECK.finding("NOTHING ahead of UNLIKE", x, x.truly(2, 2), Make.NOTHING);
        for (int e = 3; e < 8; e++) {
            CHECK.due("with no more than six", x.truly(1, 1), 1);
            x.sign(6, 0, 0, 0);
        }
        CHECK.finding("UNLIKE ahead of SPENT", x, x.truly(1, 2), Make.UNLIKE);
        CHECK.due("SPENT", x.truly(1, 0), TwoFliers.SPENT);
        CHECK.due("no sign", x.truly(1, 8), TwoFliers.BAD);
        TwoFliers y = new TwoFliers();
        y.sign(5, 0, 2, 12);
        y.undo(0, 1);
        CHECK.odds("all WEIGHT is 1", y, y.truly(0, 0), 1, 0, 1);
        CHECK.due("no story", x.truly(4, 0), TwoFliers.BAD);
    }

    /** Promise 33. */
    private static void cross() {
        TwoFliers x = new TwoFliers();
        CHECK.asked("no voices", x, x.cross(1), 0, -9);
        x.sign(6, 60, 2, 3);
        CHECK.asked("a made one does not count", x, x.cross(1), 0, -9);
        x.sign(5, 10, 6, 3);
        // West of 10: ways x 1 .. 10, y no more than half of that; the first such CELL is 0.
        CHECK.asked("one", x, x.cross(1), 10 + 9 + 7 + 5 + 3 + 1, 0);
        x.sign(5, 5, 4, 3);
        // South of 5, too: 17, then 28, 29, 30, then 40.
        CHECK.asked("two", x, x.cross(2), 5, 17);
        CHECK.asked("three of two", x, x.cross(3), 0, 17);
        x.undo(2, 1);
        CHECK.asked("an UNDONE one does not", x, x.cross(2), 0, 0);
        x.undo(1, 1);
        CHECK.asked("all UNDONE", x, x.cross(12), 0, -9);
        CHECK.due("0", x.cross(0), TwoFliers.BAD);
        CHECK.due("13", x.cross(13), TwoFliers.BAD);
    }

    /** Promise 34. */
    private static void likelier() {
        TwoFliers x = new TwoFliers();
        Make.story(x, 1, "r0:0=7");
        Make.story(x, 2, "r119:0=90 r0:0=10");
        CHECK.odds("no signs: as likely", x, x.likelier(1, 2), 1, 1, 1);
        x.sign(7, 0, 0, 6);
        CHECK.odds("more", x, x.likelier(1, 2), 2, 20, 11);
        CHECK.odds("less", x, x.likelier(2, 1), 0, 11, 20);
        CHECK.odds("than itself", x, x.likelier(2, 2), 1, 1, 1);
        CHECK.odds("as the flight", x, x.likelier(1, 0), 1, 1, 1);
        x.sign(3, 1, 0, 0);
        CHECK.odds("fuel is held against the flight alone", x, x.likelier(1, 0), 2, 2, 1);
        Make.flight(x, 13, 7, 7);
        // It ends at hour 2, so the fuel weighs 6; 10 of 16 ways come to CELL 0: (10 * 12 + 6 * 6) * 6 by 16 * 144.
        CHECK.odds("by all hours", x, x.likelier(0, 1), 0, 13, 32);
        x.sign(4, 0, 0, 12);
        CHECK.odds("0 is less", x, x.likelier(1, 2), 0, 0, 1);
        CHECK.finding("that of l is 0", x, x.likelier(2, 1), Make.NOUGHT);
        Make.story(x, 3, "a=0");
        CHECK.finding("k weighs nothing", x, x.likelier(3, 2), Make.NOUGHT);
        CHECK.finding("l weighs nothing", x, x.likelier(2, 3), Make.NOUGHT);
        CHECK.due("no story k", x.likelier(4, 0), TwoFliers.BAD);
        CHECK.due("no story l", x.likelier(0, -1), TwoFliers.BAD);
        TwoFliers y = new TwoFliers();
        CHECK.finding("k is missing", y, y.likelier(1, 0), Make.NOTHING);
        CHECK.finding("l is missing", y, y.likelier(0, 1), Make.NOTHING);
    }

    /** Promise 35. */
    private static void line() {
        TwoFliers x = new TwoFliers();
        Make.story(x, 1, "a=1 r66:0=5");
        CHECK.odds("north and south", x, x.line(1, 66, 0), 10, 7, 62);
        CHECK.odds("south and north", x, x.line(1, 66, 4), 10, 7, 62);
        CHECK.odds("east and west", x, x.line(1, 66, 6), 12, 4, 31);
        CHECK.odds("across", x, x.line(1, 66, 1), 10, 7, 62);
        CHECK.odds("in a corner", x, x.line(1, 0, 1), 1, 1, 124);
        CHECK.odds("from a corner", x, x.line(1, 0, 3), 10, 5, 62);
        CHECK.due("no cell", x.line(1, 120, 0), TwoFliers.BAD);
        CHECK.due("side 8", x.line(1, 0, 8), TwoFliers.BAD);
        CHECK.due("side -1", x.line(1, 0, -1), TwoFliers.BAD);
        CHECK.due("no story", x.line(4, 0, 0), TwoFliers.BAD);
    }

    private static void refused() {
        TwoFliers x = new TwoFliers();
        CHECK.due("where story", x.where(4, 0), TwoFliers.BAD);
        CHECK.due("where story", x.where(-1, 0), TwoFliers.BAD);
        CHECK.due("where cell", x.where(0, 120), TwoFliers.BAD);
        CHECK.due("most story", x.most(4), TwoFliers.BAD);
        CHECK.due("sure story", x.sure(4, 1, 2), TwoFliers.BAD);
        CHECK.due("hour 7", x.hour(7, 0), TwoFliers.BAD);
        CHECK.due("hour -1", x.hour(-1, 0), TwoFliers.BAD);
        CHECK.due("hour cell", x.hour(0, -1), TwoFliers.BAD);
        CHECK.due("ended 7", x.ended(7), TwoFliers.BAD);
        CHECK.due("ended -1", x.ended(-1), TwoFliers.BAD);
        CHECK.finding("where", x, x.where(3, 0), Make.NOTHING);
        CHECK.finding("most", x, x.most(3), Make.NOTHING);
        CHECK.finding("sure", x, x.sure(3, 1, 2), Make.NOTHING);
        CHECK.finding("line", x, x.line(3, 1, 2), Make.NOTHING);
        CHECK.due("nothing was told", x.lower(), 1);
    }

    /** More than 6 SIGNS that are not UNDONE, nor notes; MADE ones are signs, too. */
    private static void spent() {
        TwoFliers x = new TwoFliers();
        Make.story(x, 1, "a=1");
        for (int e = 0; e < 7; e++) {
            CHECK.odds("with " + e, x, x.where(0, 0), 1, 1, 1);
            x.sign(6, 0, 0, 0);
        }
        x.sign(0, 0, 0, 0);
        for (int k = 0; k <= 1; k++) {
            CHECK.due("where", x.where(k, 1), TwoFliers.SPENT);
            CHECK.due("most", x.most(k), TwoFliers.SPENT);
            CHECK.due("sure", x.sure(k, 1, 2), TwoFliers.SPENT);
            CHECK.due("turns", x.turns(k), TwoFliers.SPENT);
            CHECK.due("truly", x.truly(k, 0), TwoFliers.SPENT);
            CHECK.due("likelier", x.likelier(k, 1), TwoFliers.SPENT);
            CHECK.due("line", x.line(k, 0, 1), TwoFliers.SPENT);
            CHECK.due("drag", x.drag(k, 0, 0, 1), TwoFliers.SPENT);
        }
        CHECK.due("hour", x.hour(0, 1), TwoFliers.SPENT);
        CHECK.due("ended", x.ended(0), TwoFliers.SPENT);
        CHECK.finding("where", x, x.where(2, 0), Make.NOTHING);
        CHECK.finding("most", x, x.most(2), Make.NOTHING);
        CHECK.finding("sure", x, x.sure(2, 1, 2), Make.NOTHING);
        CHECK.finding("turns", x, x.turns(2), Make.NOTHING);
        CHECK.finding("truly", x, x.truly(2, 0), Make.NOTHING);
        CHECK.finding("likelier", x, x.likelier(2, 1), Make.NOTHING);
        CHECK.finding("likelier", x, x.likelier(1, 2), Make.NOTHING);
        CHECK.finding("line", x, x.line(2, 0, 1), Make.NOTHING);
        CHECK.finding("drag", x, x.drag(2, 0, 0, 1), Make.NOTHING);
        x.undo(3, 1);
        CHECK.odds("one UNDONE", x, x.where(1, 0), 1, 1, 120);
    }

    private static void nought() {
        TwoFliers x = new TwoFliers();
        Make.story(x, 1, "r0:0=1");
        x.where(0, 0);
        x.sign(4, 0, 0, 12);
        x.sign(5, 60, 0, 1);
        for (int k = 0; k <= 1; k++) {
            CHECK.finding("where", x, x.where(k, 1), Make.NOUGHT);
            CHECK.finding("most", x, x.most(k), Make.NOUGHT);
            CHECK.finding("sure", x, x.sure(k, 1, 2), Make.NOUGHT);
            CHECK.finding("truly", x, x.truly(k, 1), Make.NOUGHT);
            CHECK.finding("line", x, x.line(k, 0, 1), Make.NOUGHT);
            CHECK.finding("drag", x, x.drag(k, 0, 0, 1), Make.NOUGHT);
        }
        CHECK.finding("hour", x, x.hour(0, 0), Make.NOUGHT);
        CHECK.finding("ended", x, x.ended(0), Make.NOUGHT);
        CHECK.due("drag left no row", x.count(5), 0);
        CHECK.due("what was told stays", x.upper(), 1);
    }
}
