import java.util.function.IntSupplier;

/** Promises 25 to 35 at their edges, with what 'Terms' say of WEIGHT, SPENT, ODDS, MOST and LIKELIER. */
public final class EdgesOddsTest {
    private static final Check CHECK = new Check("EdgesOddsTest");
    private static final int LEAST = Integer.MIN_VALUE, MOST = Integer.MAX_VALUE;
    private static final int BAD = TwoFliers.BAD, SPENT = TwoFliers.SPENT;

    public static void main(String[] args) {
        badStories();
        badCells();
        badNumbers();
        badAheadOfNothing();
        nothingAheadOfSpent();
        spentAheadOfNought();
        nought();
        noughtByTheStoryItself();
        spentByKinds();
        notesAndUndoneAreNotSpent();
        fallsSpentByThree();
        mostOfAlike();
        sureBounds();
        sureOfJustSoMuch();
        hourUpOrEnding();
        endedHours();
        heardAtItsHour();
        fixedAtItsHour();
        othersAtLast();
        burntByTheEnd();
        byATextAtLast();
        undoneAsANote();
        fallsTold();
        fallsNought();
        turnsBits();
        turnsFromNought();
        trulyTold();
        trulyOrder();
        crossBounds();
        crossOfMany();
        likelierTold();
        likelierNought();
        likelierOrder();
        lineCells();
        lineTold();
        greatestNumbers();
        CHECK.end();
    }

    private static Watch watch(TwoFliers x) {
        return new Watch(CHECK, x);
    }

    private static void where(TwoFliers x, int k, int cell, long up, long low) {
        CHECK.odds("where(" + k + ", " + cell + ")", x, x.where(k, cell), 1, up, low);
    }

    /** STORY 1 weighs all CELLS alike, STORY 2 is missing, STORY 3 weighs nothing; a VOICE with p 0 is SIGN 0. */
    private static TwoFliers ready() {
        TwoFliers x = new TwoFliers();
        Make.story(x, 1, "a=1");
        Make.story(x, 3, "");
        x.sign(5, 66, 2, 0);
        x.where(1, 0);
        x.near(2);
        return x;
    }

    private interface Asked {
        int of(TwoFliers x, int k);
    }

    /** Every call that asks by STORY k. */
    private static final String[] NAMES = {"where", "most", "sure", "falls", "turns", "truly", "likelier", "as likely as", "line", "drag"};
    private static final Asked[] ASKED = {
        (x, k) -> x.where(k, 0), (x, k) -> x.most(k), (x, k) -> x.sure(k, 1, 1), (x, k) -> x.falls(k, 0, 0), (x, k) -> x.turns(k),
        (x, k) -> x.truly(k, 0), (x, k) -> x.likelier(k, 1), (x, k) -> x.likelier(1, k), (x, k) -> x.line(k, 0, 0),
        (x, k) -> x.drag(k, 0, 0, 5)};
    private static final int TURNS = 4, LIKELIER = 6;

    /** "STORIES 1 .. 3", "STORY 0 is the FLIGHT": BAD below 0 and above 3. */
    private static void badStories() {
        for (int i = 0; i < ASKED.length; i++) {
            Asked call = ASKED[i];
            TwoFliers x = ready();
            for (int k : new int[] {-1, 4, LEAST, MOST}) {
                watch(x).bad(NAMES[i] + " by story " + k, () -> call.of(x, k));
            }
            CHECK.due(NAMES[i] + " by story 0", call.of(x, 0) >= 0 ? 1 : 0, 1);
            CHECK.due(NAMES[i] + " by story 1", call.of(x, 1) >= 0 ? 1 : 0, 1);
        }
    }

    /** "CELLS are 0 .. 119": BAD below and above. */
    private static void badCells() {
        TwoFliers x = ready();
        for (int cell : new int[] {-1, 120, LEAST, MOST}) {
            watch(x).bad("where " + cell, () -> x.where(1, cell));
            watch(x).bad("hour " + cell, () -> x.hour(0, cell));
            watch(x).bad("falls " + cell, () -> x.falls(1, 0, cell));
            watch(x).bad("line " + cell, () -> x.line(1, cell, 0));
        }
        where(x, 1, 119, 1, 120);
        CHECK.odds("hour(0, 119)", x, x.hour(0, 119), 1, 0, 1);
        CHECK.odds("falls(1, 0, 119)", x, x.falls(1, 0, 119), 1, 0, 1);
        CHECK.odds("line(1, 119, 7)", x, x.line(1, 119, 7), 10, 1, 12);
    }

    /** Hours 0 .. 6, SIDES 0 .. 7, SIGNS that there are: BAD below and above. */
    private static void badNumbers() {
        TwoFliers x = ready();
        for (int v : new int[] {-1, 7, LEAST, MOST}) {
            watch(x).bad("hour " + v, () -> x.hour(v, 0));
            watch(x).bad("ended " + v, () -> x.ended(v));
        }
        for (int side : new int[] {-1, 8, LEAST, MOST}) {
            watch(x).bad("line, side " + side, () -> x.line(1, 0, side));
        }
        for (int e : new int[] {-1, 1, 12, LEAST, MOST}) {
            watch(x).bad("falls, sign " + e, () -> x.falls(1, e, 0));
            watch(x).bad("truly, sign " + e, () -> x.truly(1, e));
        }
    }

    /** "the first of these that fits": BAD ahead of NOTHING, of SPENT and of NOUGHT. */
    private static void badAheadOfNothing() {
        TwoFliers x = ready();
        for (int e = 0; e < 7; e++) {
            x.sign(4, 0, 119, 12);
        }
        watch(x).bad("where", () -> x.where(2, 120));
        watch(x).bad("sure", () -> x.sure(2, 2, 1));
        watch(x).bad("falls, no cell", () -> x.falls(2, 0, 120));
        watch(x).bad("falls, no sign", () -> x.falls(2, 8, 0));
        watch(x).bad("truly", () -> x.truly(2, 8));
        watch(x).bad("likelier, missing and none", () -> x.likelier(2, 4));
        watch(x).bad("likelier, none and missing", () -> x.likelier(4, 2));
        watch(x).bad("line, no cell", () -> x.line(2, 120, 0));
        watch(x).bad("line, no side", () -> x.line(2, 0, 8));
        watch(x).bad("hour", () -> x.hour(7, 0));
        watch(x).bad("hour, no cell", () -> x.hour(0, 120));
        watch(x).bad("ended", () -> x.ended(7));
    }

    /** "(NOTHING ahead of SPENT.)", "BAD; NOTHING; SPENT .. (In this order.)" */
    private static void nothingAheadOfSpent() {
        for (int i = 0; i < ASKED.length; i++) {
            Asked call = ASKED[i];
            TwoFliers x = ready();
            watch(x).finding(NAMES[i] + " by a missing story", () -> call.of(x, 2), Make.NOTHING);
            for (int e = 0; e < 7; e++) {
                x.sign(4, 0, 119, 12);
            }
            watch(x).finding(NAMES[i] + ": NOTHING ahead of SPENT", () -> call.of(x, 2), Make.NOTHING);
        }
    }

    /** "SPENT; NOUGHT": with seven SIGNS by which nothing can be it is SPENT, with six NOUGHT. */
    private static void spentAheadOfNought() {
        for (int i = 0; i < ASKED.length; i++) {
            for (int k = 0; k <= 1; k++) {
                Asked call = ASKED[i];
                int story = k;
                TwoFliers x = ready();
                for (int e = 1; e < 7; e++) {
                    x.sign(4, 0, 119, 12);
                }
                watch(x).same(NAMES[i] + " with seven", () -> call.of(x, story), SPENT);
                for (int e = 1; e < 5; e++) {
                    x.undo(e, 1);
                }
                if (i == TURNS) {
                    watch(x).same(NAMES[i] + " with three", () -> call.of(x, story), 0);
                } else {
                    watch(x).finding(NAMES[i] + " with three", () -> call.of(x, story), Make.NOUGHT);
                }
            }
        }
        TwoFliers x = ready();
        for (int e = 1; e < 7; e++) {
            x.sign(4, 0, 119, 12);
        }
        watch(x).same("hour with seven", () -> x.hour(0, 0), SPENT);
        watch(x).same("ended with seven", () -> x.ended(0), SPENT);
        x.undo(0, 1);
        watch(x).finding("hour with six", () -> x.hour(0, 0), Make.NOUGHT);
        watch(x).finding("ended with six", () -> x.ended(0), Make.NOUGHT);
    }

    /** "NOUGHT (.. what can't be by all SIGNS)", and what can by one way alone. */
    private static void nought() {
        for (int i = 0; i < ASKED.length; i++) {
            if (i == TURNS || i == LIKELIER) {
                continue;
            }
            Asked call = ASKED[i];
            TwoFliers x = ready();
            x.sign(4, 0, 119, 12);
            watch(x).finding(NAMES[i] + " by the flight", () -> call.of(x, 0), Make.NOUGHT);
            watch(x).finding(NAMES[i] + " by a text", () -> call.of(x, 1), Make.NOUGHT);
        }
        TwoFliers x = ready();
        x.sign(4, 1, 119, 12);
        x.sign(4, 12, 119, 12);
        where(x, 1, 0, 1, 1);
        where(x, 0, 0, 1, 1);
    }

    /** A STORY that weighs nothing has all WEIGHT 0, without any SIGN. */
    private static void noughtByTheStoryItself() {
        for (int i = 0; i < ASKED.length; i++) {
            Asked call = ASKED[i];
            TwoFliers x = ready();
            if (i == TURNS) {
                watch(x).same("turns", () -> x.turns(3), 0);
            } else {
                watch(x).finding(NAMES[i] + " by nothing", () -> call.of(x, 3), Make.NOUGHT);
            }
        }
    }

    /** "SPENT: more than 6 SIGNS that are not UNDONE, nor notes.": of each KIND, MADE ones too. */
    private static void spentByKinds() {
        int[][] harmless = {{1, 0, 0, 5}, {2, 0, 0, 0}, {3, 0, 0, 0}, {4, 0, 0, 0}, {5, 0, 0, 0}, {6, 0, 0, 0}, {7, 0, 0, 0}};
        for (int[] s : harmless) {
            TwoFliers x = new TwoFliers();
            Make.story(x, 1, "a=1");
            for (int e = 0; e < 6; e++) {
                x.sign(s[0], s[1], s[2], s[3]);
            }
            CHECK.odds("six of kind " + s[0], x, x.where(0, 0), 1, 1, 1);
            CHECK.due("six of kind " + s[0], x.most(1), 0);
            x.sign(s[0], s[1], s[2], s[3]);
            watch(x).same("seven of kind " + s[0], () -> x.where(0, 0), SPENT);
            watch(x).same("seven of kind " + s[0] + " by a text", () -> x.where(1, 0), SPENT);
            x.undo(6, 1);
            CHECK.odds("one of seven UNDONE", x, x.where(0, 0), 1, 1, 1);
        }
    }

    /** "not UNDONE, nor notes": twelve SIGNS, six of which count. */
    private static void notesAndUndoneAreNotSpent() {
        TwoFliers x = ready();
        for (int e = 1; e < 6; e++) {
            x.sign(6, 0, 0, 0);
        }
        for (int e = 6; e < 9; e++) {
            x.sign(0, 0, 0, 0);
        }
        for (int e = 9; e < 12; e++) {
            x.sign(4, 0, 119, 12);
            x.undo(e, 1);
        }
        for (int i = 0; i < ASKED.length; i++) {
            Asked call = ASKED[i];
            boolean falls = NAMES[i].equals("falls");
            CHECK.due(NAMES[i] + " with six of twelve", call.of(x, 1) >= 0 ? 1 : 0, falls ? 0 : 1);
        }
        CHECK.due("hour", x.hour(0, 0), 1);
        CHECK.due("ended", x.ended(0), 1);
        x.undo(6, 1);
        CHECK.due("an UNDONE note", x.where(1, 0), 1);
        x.undo(6, 0);
        CHECK.due("a note again", x.where(1, 0), 1);
        x.undo(9, 0);
        watch(x).same("a seventh", () -> x.where(1, 0), SPENT);
    }

    /** falls(): "SPENT: more than 3 SIGNS that are not UNDONE, nor notes". */
    private static void fallsSpentByThree() {
        for (int k = 0; k <= 1; k++) {
            int story = k;
            TwoFliers x = ready();
            x.sign(6, 0, 0, 0);
            x.sign(6, 0, 0, 0);
            x.sign(0, 0, 0, 0);
            CHECK.due("three and a note", x.falls(k, 0, 0), 1);
            x.sign(6, 0, 0, 0);
            watch(x).same("four", () -> x.falls(story, 0, 0), SPENT);
            watch(x).same("four, of a note", () -> x.falls(story, 3, 0), SPENT);
            x.undo(1, 1);
            CHECK.due("one of four UNDONE", x.falls(k, 0, 0), 1);
            CHECK.due("of the UNDONE one", x.falls(k, 1, 0), 1);
        }
    }

    /** "MOST is the CELL of the greatest (of alike ones the first)." */
    private static void mostOfAlike() {
        TwoFliers x = new TwoFliers();
        Make.story(x, 1, "a=1");
        watch(x).odds("all alike", () -> x.most(1), 0, 1, 120);
        Make.story(x, 1, "r118:0=9 r119:0=9");
        watch(x).odds("the last two", () -> x.most(1), 118, 1, 2);
        Make.story(x, 1, "r118:0=8 r119:0=9");
        watch(x).odds("the last one", () -> x.most(1), 119, 9, 17);
        Make.story(x, 1, "r0:0=1");
        watch(x).odds("the first one", () -> x.most(1), 0, 1, 1);
        Make.flight(x, 66, 0);
        watch(x).odds("by the flight", () -> x.most(0), 54, 1, 2);
        x.sign(4, 54, 54, 6);
        watch(x).odds("three alike by the flight", () -> x.most(0), 53, 1, 3);
    }

    /** sure(): "a by b (1 .. 99; a no more than b)": BAD else. */
    private static void sureBounds() {
        TwoFliers x = ready();
        int[][] bad = {
            {0, 1}, {0, 0}, {1, 0}, {-1, 1}, {-1, -1}, {2, 1}, {99, 98}, {1, 100}, {100, 100}, {100, 99}, {LEAST, LEAST},
            {LEAST, 99}, {1, MOST}, {MOST, MOST}, {0, 99}, {-2, -1}};
        for (int[] ab : bad) {
            watch(x).bad("sure of " + ab[0] + " by " + ab[1], () -> x.sure(1, ab[0], ab[1]));
        }
        watch(x).asks("1 by 1", () -> x.sure(0, 1, 1), 1, 0);
        watch(x).asks("99 by 99", () -> x.sure(0, 99, 99), 1, 0);
        watch(x).asks("1 by 99", () -> x.sure(0, 1, 99), 1, 0);
        watch(x).asks("98 by 99", () -> x.sure(0, 98, 99), 1, 0);
        watch(x).asks("1 by 99 of 120 alike", () -> x.sure(1, 1, 99), 0, -9);
    }

    /** "ODDS .. of a by b .. or more; the first by asked() (NONE)." */
    private static void sureOfJustSoMuch() {
        TwoFliers x = new TwoFliers();
        Make.story(x, 1, "r7:0=1 r3:0=97 r119:0=1");
        watch(x).asks("just 1 by 99", () -> x.sure(1, 1, 99), 3, 3);
        watch(x).asks("more than 1 by 99", () -> x.sure(1, 2, 99), 1, 3);
        watch(x).asks("1 by 98 is more", () -> x.sure(1, 1, 98), 1, 3);
        watch(x).asks("just 97 by 99", () -> x.sure(1, 97, 99), 1, 3);
        watch(x).asks("98 by 99", () -> x.sure(1, 98, 99), 0, -9);
        Make.story(x, 1, "r118:0=1 r119:0=1");
        watch(x).asks("just a half", () -> x.sure(1, 1, 2), 2, 118);
        watch(x).asks("just a half of 98", () -> x.sure(1, 49, 98), 2, 118);
        watch(x).asks("more than a half", () -> x.sure(1, 50, 99), 0, -9);
        watch(x).asks("less than a half", () -> x.sure(1, 49, 99), 2, 118);
    }

    /** hour(): "is up (or ends) at an hour (0 .. 6) in a CELL". */
    private static void hourUpOrEnding() {
        TwoFliers x = new TwoFliers();
        Make.flight(x, 66, 2, 2);
        Make.ends(x, 1, 1, 2);
        watch(x).odds("at hour 0 all are up, or end", () -> x.hour(0, 66), 1, 1, 1);
        watch(x).odds("at hour 1: what did not end at hour 0", () -> x.hour(1, 67), 1, 3, 8);
        watch(x).odds("at hour 1, beside", () -> x.hour(1, 55), 1, 3, 16);
        watch(x).odds("at hour 1 not where it ended ahead", () -> x.hour(1, 66), 1, 0, 1);
        watch(x).odds("at hour 2: what ends there", () -> x.hour(2, 68), 1, 3, 16);
        for (int hour = 3; hour <= 6; hour++) {
            int h = hour;
            watch(x).odds("behind its last hour", () -> x.hour(h, 68), 1, 0, 1);
        }
        TwoFliers y = new TwoFliers();
        Make.flight(y, 66, 0, 0, 0, 0, 0, 0);
        // Straight on 2 ^ 6 ways of 4 ^ 6, out of the map it stays; to be at 6 is more than that.
        watch(y).odds("at hour 6 not out of reach", () -> y.hour(6, 66), 1, 0, 1);
        watch(y).odds("at hour 1", () -> y.hour(1, 54), 1, 1, 2);
        watch(y).odds("at hour 2 straight on, or by both sides", () -> y.hour(2, 42), 1, 3, 8);
    }

    /** ended(): hours 0 .. 6, those behind the last one too. */
    private static void endedHours() {
        TwoFliers x = new TwoFliers();
        watch(x).odds("no hours", () -> x.ended(0), 1, 1, 1);
        watch(x).odds("behind it", () -> x.ended(1), 1, 0, 1);
        watch(x).odds("hour 6", () -> x.ended(6), 1, 0, 1);
        Make.flight(x, 66, 0, 1, 2, 3, 4, 5);
        Make.ends(x, 9, 1, 1, 1, 1, 1, 4);
        watch(x).odds("hour 0", () -> x.ended(0), 1, 1, 2);
        watch(x).odds("hour 5", () -> x.ended(5), 1, 1, 18);
        watch(x).odds("hour 6 of six", () -> x.ended(6), 1, 2, 9);
        Make.flight(x, 66, 0);
        watch(x).odds("hour 6 of a FLIGHT anew", () -> x.ended(6), 1, 0, 1);
        watch(x).odds("hour 0 of it", () -> x.ended(0), 1, 0, 1);
        watch(x).odds("hour 1 of it", () -> x.ended(1), 1, 1, 1);
    }

    private static void ended(int kind, int a, int b, int c, long up, long low) {
        TwoFliers x = new TwoFliers();
        Make.flight(x, 66, 2);
        Make.ends(x, 1, 1);
        x.sign(kind, a, b, c);
        CHECK.odds("kind " + kind + " at hour " + a + ": ended(0)", x, x.ended(0), 1, up, low);
    }

    /** "HEARD, FIXED weigh where the FLIGHT is at their hour (it being still up, or ending there; ended ahead of it: 12)". */
    private static void heardAtItsHour() {
        ended(1, 0, 66, 5, 1, 2);
        ended(1, 0, 0, 3, 1, 2);
        // Ended at hour 0: 4 * 12; at hour 1 all are FAR 1: 4 * 8.
        ended(1, 1, 66, 5, 3, 5);
        ended(1, 2, 66, 5, 1, 2);
        ended(1, 6, 0, 5, 1, 2);
        // At hour 1 off is 4: only what ended ahead is left.
        ended(1, 1, 0, 4, 1, 1);
        ended(2, 0, 0, 0, 1, 2);
        // At hour 1: 2 ways to 67 weigh 12, 55 and 79 weigh 4: 32 against 48.
        ended(2, 1, 67, 0, 3, 5);
        ended(2, 2, 0, 0, 1, 2);
        ended(2, 6, 0, 0, 1, 2);
        TwoFliers x = new TwoFliers();
        x.sign(1, 0, 66, 5);
        watch(x).finding("not to be heard at hour 0", () -> x.where(0, 0), Make.NOUGHT);
        x.undo(0, 1);
        x.sign(1, 1, 66, 5);
        watch(x).odds("it had ended ahead of hour 1", () -> x.where(0, 0), 1, 1, 1);
    }

    /** "where the FLIGHT is at their hour": not where it is at last. */
    private static void fixedAtItsHour() {
        TwoFliers x = new TwoFliers();
        Make.flight(x, 66, 2, 2);
        x.sign(2, 1, 55, 0);
        // At hour 1: 67 (2 ways) weighs 4, 55 weighs 12, 79 weighs 1: 21, times 4; at 68: 2 * 2 * 4 + 12 + 1.
        watch(x).odds("at last", () -> x.where(0, 68), 1, 29, 84);
        watch(x).odds("at its hour", () -> x.hour(1, 55), 1, 4, 7);
        watch(x).odds("at hour 0", () -> x.hour(0, 66), 1, 1, 1);
    }

    /** "all others (but BURNT) weigh where it is at last". */
    private static void othersAtLast() {
        // At last: 68 by 6 ways of 16, 56 and 80 by 4, 44 and 92 by 1.
        int[][] known = {
            // the SIGN, and what the ODDS of 68 are then
            {4, 67, 67, 12, 3, 8}, {4, 66, 66, 12, 3, 8}, {5, 67, 2, 12, 1, 1}, {7, 68, 1, 12, 3, 7}, {7, 66, 1, 6, 3, 8}};
        for (int[] k : known) {
            TwoFliers x = new TwoFliers();
            Make.flight(x, 66, 2, 2);
            x.sign(k[0], k[1], k[2], k[3]);
            where(x, 0, 68, k[4], k[5]);
        }
        for (int kind = 4; kind <= 7; kind++) {
            for (int a = 0; a <= 2; a++) {
                TwoFliers x = new TwoFliers();
                Make.flight(x, 66, 2, 2);
                Make.ends(x, 1, 1, 1);
                x.sign(kind, a, 0, 0);
                // A CELL is no hour: what weighs 12 wherever it is at last weighs so for all ends.
                CHECK.odds("kind " + kind + " of CELL " + a, x, x.ended(0), 1, 1, 3);
            }
        }
        TwoFliers x = new TwoFliers();
        Make.flight(x, 66, 2, 2);
        Make.ends(x, 0, 1, 1);
        x.sign(4, 67, 67, 12);
        // At hour 1 only 55 and 79 are left: 2 * 4 against 16.
        CHECK.odds("where it ended at hour 1", x, x.ended(1), 1, 1, 3);
    }

    /** "BURNT (by the hour at which it ends)"; "times 4 for each hour to come behind its end". */
    private static void burntByTheEnd() {
        int[] due = {0, 2, 6, 12, 6, 2, 0};
        TwoFliers x = new TwoFliers();
        Make.flight(x, 66, 0, 1, 2, 3, 4, 5);
        Make.ends(x, 1, 1, 1, 1, 1, 1, 1);
        x.sign(3, 3, 0, 0);
        for (int h = 0; h <= 6; h++) {
            CHECK.due("ended(" + h + ")", x.ended(h), 1);
            CHECK.due("of 28 at hour " + h, 28 * x.upper(), due[h] * x.lower());
        }
        Make.ends(x, 1, 0, 0, 0, 0, 0, 1);
        watch(x).finding("hours 0 and 6 can't be", () -> x.ended(0), Make.NOUGHT);
        Make.ends(x, 9, 1, 0, 0, 0, 0, 9);
        watch(x).odds("hour 1 can", () -> x.ended(1), 1, 1, 1);
    }

    /** "In a STORY by a TEXT .. (HEARD, FIXED, too, by that CELL; BURNT: 12)." */
    private static void byATextAtLast() {
        for (int hour = 0; hour <= 6; hour++) {
            TwoFliers x = new TwoFliers();
            Make.story(x, 1, "r0:0=1 r1:0=1 r119:0=1");
            x.sign(3, hour, 0, 0);
            where(x, 1, 0, 1, 3);
            x.sign(1, hour, 0, 5);
            // 12, 8, and 0 for 119.
            where(x, 1, 0, 3, 5);
            where(x, 1, 119, 0, 1);
            x.sign(2, hour, 1, 0);
            // 12 * 4 against 8 * 12.
            where(x, 1, 0, 1, 3);
        }
        TwoFliers x = new TwoFliers();
        Make.story(x, 1, "r0:0=2 r1:0=1");
        x.sign(7, 1, 0, 6);
        where(x, 1, 0, 1, 2);
        x.sign(5, 0, 2, 3);
        where(x, 1, 0, 3, 7);
        x.sign(6, 0, 2, 12);
        where(x, 1, 0, 3, 7);
    }

    /** "A SIGN may be UNDONE: it is as if it were a note." */
    private static void undoneAsANote() {
        int[][] signs = {{1, 0, 119, 5}, {2, 0, 119, 0}, {3, 6, 0, 0}, {4, 0, 119, 12}, {5, 119, 4, 12}, {7, 119, 0, 12}};
        TwoFliers x = new TwoFliers();
        Make.story(x, 1, "a=1");
        for (int e = 0; e < signs.length; e++) {
            int[] s = signs[e];
            x.sign(s[0], s[1], s[2], s[3]);
            x.undo(e, 1);
        }
        where(x, 0, 0, 1, 1);
        where(x, 1, 0, 1, 120);
        CHECK.odds("ended", x, x.ended(0), 1, 1, 1);
        CHECK.odds("likelier", x, x.likelier(0, 1), 1, 1, 1);
        CHECK.due("turns", x.turns(1), 0);
        CHECK.asked("cross", x, x.cross(1), 0, -9);
        x.undo(3, 0);
        watch(x).finding("not UNDONE any more", () -> x.where(1, 0), Make.NOUGHT);
    }

    /** falls(): "By how much ODDS .. are more with a SIGN than without it": above, below 0, and 0 by 1. */
    private static void fallsTold() {
        TwoFliers x = new TwoFliers();
        Make.story(x, 1, "r0:0=1 r1:0=1");
        x.sign(4, 0, 0, 12);
        watch(x).odds("all of it", () -> x.falls(1, 0, 0), 1, -1, 2);
        watch(x).odds("to the other one", () -> x.falls(1, 0, 1), 1, 1, 2);
        watch(x).odds("none of it", () -> x.falls(1, 0, 119), 1, 0, 1);
        x.undo(0, 1);
        watch(x).odds("an UNDONE one", () -> x.falls(1, 0, 0), 1, 0, 1);
        x.sign(0, 0, 0, 0);
        watch(x).odds("a note", () -> x.falls(1, 1, 0), 1, 0, 1);
        x.sign(6, 0, 2, 12);
        watch(x).odds("a MADE one", () -> x.falls(1, 2, 0), 1, 0, 1);
        Make.flight(x, 66, 2);
        x.sign(7, 67, 0, 6);
        // 2 * 12 by 2 * 12 + 2 * 6, less a half.
        watch(x).odds("by the flight", () -> x.falls(0, 3, 67), 1, 1, 6);
        watch(x).odds("by the flight, beside", () -> x.falls(0, 3, 55), 1, -1, 12);
    }

    /** falls(): "NOUGHT: with it, or without." */
    private static void fallsNought() {
        TwoFliers x = new TwoFliers();
        Make.story(x, 1, "r0:0=1");
        x.sign(4, 0, 0, 12);
        x.sign(4, 0, 0, 12);
        x.sign(0, 0, 0, 0);
        watch(x).finding("with and without", () -> x.falls(1, 0, 0), Make.NOUGHT);
        x.undo(0, 1);
        watch(x).finding("with", () -> x.falls(1, 1, 0), Make.NOUGHT);
        watch(x).finding("of an UNDONE one", () -> x.falls(1, 0, 0), Make.NOUGHT);
        watch(x).finding("of a note", () -> x.falls(1, 2, 0), Make.NOUGHT);
        x.undo(1, 1);
        watch(x).odds("neither", () -> x.falls(1, 1, 0), 1, 0, 1);
    }

    /** turns(): "SIGNS (bits; not UNDONE) without any one of which MOST .. is another CELL". */
    private static void turnsBits() {
        TwoFliers x = new TwoFliers();
        Make.story(x, 1, "r0:0=2 r119:0=1");
        for (int e = 0; e < 11; e++) {
            x.sign(0, 0, 0, 0);
        }
        watch(x).same("notes turn nothing", () -> x.turns(1), 0);
        x.sign(4, 0, 0, 9);
        watch(x).same("sign 11", () -> x.turns(1), 2048);
        x.undo(11, 1);
        watch(x).same("UNDONE", () -> x.turns(1), 0);
        TwoFliers y = new TwoFliers();
        Make.story(y, 1, "r0:0=4 r119:0=1");
        y.sign(4, 0, 0, 6);
        y.sign(4, 0, 0, 6);
        watch(y).same("alike: the first stays", () -> y.turns(1), 0);
        y.sign(4, 0, 0, 1);
        // 4 * 6 * 6 * 11 against 12 * 12 * 12: each of the three is needed.
        watch(y).same("each of three", () -> y.turns(1), 7);
        Make.story(y, 1, "r0:0=5 r119:0=1");
        watch(y).same("none of three", () -> y.turns(1), 0);
        TwoFliers z = new TwoFliers();
        Make.story(z, 1, "r0:0=1");
        z.sign(2, 0, 119, 0);
        watch(z).same("all WEIGHT is just 1, with and without", () -> z.turns(1), 0);
    }

    /** turns(): "(or all WEIGHT was 0, and is not)". */
    private static void turnsFromNought() {
        TwoFliers x = new TwoFliers();
        Make.story(x, 1, "r0:0=1");
        Make.story(x, 2, "a=0");
        x.sign(4, 0, 119, 12);
        watch(x).same("was 0, and is not", () -> x.turns(1), 1);
        watch(x).same("by the flight", () -> x.turns(0), 1);
        watch(x).same("was 0, and is", () -> x.turns(2), 0);
        x.sign(7, 119, 0, 3);
        watch(x).same("another one does not", () -> x.turns(1), 1);
        x.sign(4, 0, 0, 12);
        watch(x).same("two by which it can't be", () -> x.turns(1), 0);
        CHECK.due("no finding", x.finding(), 0);
    }

    /** truly(): "on the SIDE of a VOICE (MADE, UNDONE too)". */
    private static void trulyTold() {
        TwoFliers x = new TwoFliers();
        Make.story(x, 1, "a=1");
        x.sign(5, 0, 0, 0);
        x.sign(6, 60, 2, 12);
        x.sign(5, 66, 2, 12);
        x.undo(2, 1);
        watch(x).odds("no CELL is there", () -> x.truly(1, 0), 1, 0, 1);
        // East of 60, by ways in x of 1 to 11: 1 + 3 + 3 + 5 + 5 + 7 + 7 + 9 + 9 + 10 + 10 CELLS of 120.
        watch(x).odds("a MADE one", () -> x.truly(1, 1), 1, 23, 40);
        // East of 66: 1 + 3 + 3 + 5 + 5.
        watch(x).odds("an UNDONE one", () -> x.truly(1, 2), 1, 17, 120);
        TwoFliers y = new TwoFliers();
        Make.flight(y, 66);
        y.sign(5, 66, 2, 0);
        watch(y).odds("EARS are on no SIDE", () -> y.truly(0, 0), 1, 0, 1);
        y.sign(5, 65, 2, 12);
        watch(y).odds("all of it", () -> y.truly(0, 1), 1, 1, 1);
        TwoFliers z = new TwoFliers();
        Make.story(z, 1, "r0:0=1 r119:0=1");
        z.sign(5, 1, 6, 0);
        z.sign(5, 118, 2, 0);
        z.sign(5, 108, 4, 0);
        watch(z).odds("the first CELL", () -> z.truly(1, 0), 1, 1, 2);
        watch(z).odds("the last CELL", () -> z.truly(1, 1), 1, 1, 2);
        watch(z).odds("south of the map", () -> z.truly(1, 2), 1, 0, 1);
    }

    /** truly(): "BAD; NOTHING; UNLIKE: no VOICE; SPENT; NOUGHT. (In this order.)" */
    private static void trulyOrder() {
        TwoFliers x = ready();
        for (int kind = 0; kind <= 7; kind++) {
            x.sign(kind, 0, 0, 0);
        }
        x.sign(4, 0, 119, 12);
        for (int e = 1; e <= 8; e++) {
            int sign = e;
            boolean voice = e == 6 || e == 7;
            watch(x).finding("NOTHING ahead of all", () -> x.truly(2, sign), Make.NOTHING);
            if (voice) {
                watch(x).same("a voice: SPENT ahead of NOUGHT", () -> x.truly(1, sign), SPENT);
            } else {
                watch(x).finding("no voice: UNLIKE ahead of SPENT", () -> x.truly(1, sign), Make.UNLIKE);
            }
        }
        for (int e = 2; e <= 4; e++) {
            x.undo(e, 1);
        }
        watch(x).finding("UNLIKE ahead of NOUGHT", () -> x.truly(1, 1), Make.UNLIKE);
        watch(x).finding("NOUGHT", () -> x.truly(1, 6), Make.NOUGHT);
        x.undo(6, 1);
        watch(x).finding("an UNDONE one is a VOICE", () -> x.truly(1, 6), Make.NOUGHT);
    }

    /** cross(): "n (1 .. 12)"; "(NONE: no such VOICE). BAD." */
    private static void crossBounds() {
        TwoFliers x = new TwoFliers();
        x.near(2);
        for (int n : new int[] {0, -1, 13, LEAST, MOST}) {
            watch(x).bad("cross " + n, () -> x.cross(n));
        }
        watch(x).asks("no VOICE", () -> x.cross(1), 0, -9);
        watch(x).asks("no VOICE, of twelve", () -> x.cross(12), 0, -9);
        x.sign(6, 66, 2, 12);
        x.sign(4, 66, 2, 12);
        watch(x).asks("a MADE one is no such VOICE", () -> x.cross(1), 0, -9);
        x.sign(5, 66, 2, 12);
        x.undo(2, 1);
        watch(x).asks("nor is an UNDONE one", () -> x.cross(1), 0, -9);
        x.sign(5, 0, 0, 12);
        watch(x).asks("a VOICE from where no CELL is", () -> x.cross(1), 0, 0);
        x.undo(2, 0);
        watch(x).asks("a VOICE, whatever its p", () -> x.cross(1), 17, 46);
        int[][] known = {
            // EARS, a SIDE, how many CELLS are there, and the first of those on most
            {1, 6, 1, 0}, {118, 2, 1, 119}, {0, 0, 0, 0}, {108, 4, 0, 0}, {119, 4, 0, 0}, {12, 7, 0, 0}, {12, 0, 1, 0}, {107, 4, 1, 119}};
        for (int[] k : known) {
            TwoFliers y = new TwoFliers();
            y.near(2);
            y.sign(5, k[0], k[1], 0);
            watch(y).asks("from " + k[0] + " to side " + k[1], () -> y.cross(1), k[2], k[3]);
        }
        TwoFliers z = new TwoFliers();
        for (int e = 0; e < 12; e++) {
            z.sign(6, 66, 2, 0);
        }
        z.near(2);
        watch(z).asks("twelve, and none is such a VOICE", () -> z.cross(1), 0, -9);
    }

    /** "How many CELLS are on the SIDES of n .. or more VOICES ..; the first of those on most". */
    private static void crossOfMany() {
        TwoFliers x = new TwoFliers();
        for (int e = 0; e < 12; e++) {
            x.sign(5, 119 - 12 * (e / 6), 0, 0);
        }
        // North of 119 and of 107; twelve say so, six each.
        int north = northOf(119);
        int both = northOf(107);
        watch(x).asks("twelve", () -> x.cross(12), both, bothFirst());
        watch(x).asks("six", () -> x.cross(6), north, bothFirst());
        watch(x).asks("one", () -> x.cross(1), north, bothFirst());
        watch(x).asks("seven", () -> x.cross(7), both, bothFirst());
        x.undo(0, 1);
        watch(x).asks("not twelve any more", () -> x.cross(12), 0, bothFirst());
        watch(x).asks("eleven", () -> x.cross(11), both, bothFirst());
    }

    private static boolean isNorth(int ears, int cell) {
        int wayX = Math.abs(cell % 12 - ears % 12);
        int wayY = ears / 12 - cell / 12;
        return wayY > 0 && wayY >= 2 * wayX;
    }

    private static int northOf(int ears) {
        int many = 0;
        for (int cell = 0; cell < 120; cell++) {
            many += isNorth(ears, cell) ? 1 : 0;
        }
        return many;
    }

    private static int bothFirst() {
        for (int cell = 0; cell < 120; cell++) {
            if (isNorth(119, cell) && isNorth(107, cell)) {
                return cell;
            }
        }
        return -9;
    }

    /** likelier(): "2 more, 1 as, 0 less likely"; "all WEIGHT of k by all that it would be without any SIGN .., by the same of l". */
    private static void likelierTold() {
        TwoFliers x = new TwoFliers();
        Make.story(x, 1, "r0:0=99");
        Make.story(x, 2, "r119:0=1");
        watch(x).odds("no SIGN", () -> x.likelier(1, 2), 1, 1, 1);
        x.sign(7, 0, 0, 1);
        watch(x).odds("more by a little", () -> x.likelier(1, 2), 2, 12, 11);
        watch(x).odds("less by a little", () -> x.likelier(2, 1), 0, 11, 12);
        watch(x).odds("as the FLIGHT", () -> x.likelier(1, 0), 1, 1, 1);
        watch(x).odds("the FLIGHT as it", () -> x.likelier(0, 1), 1, 1, 1);
        watch(x).odds("as itself", () -> x.likelier(2, 2), 1, 1, 1);
        x.undo(0, 1);
        watch(x).odds("UNDONE: as", () -> x.likelier(1, 2), 1, 1, 1);
        x.sign(3, 2, 0, 0);
        watch(x).odds("fuel, by the FLIGHT alone", () -> x.likelier(0, 1), 0, 1, 6);
        for (int e = 0; e < 3; e++) {
            x.sign(0, 0, 0, 0);
        }
        watch(x).odds("notes do not matter", () -> x.likelier(1, 0), 2, 6, 1);
    }

    /** "NOUGHT: that of l is 0, or what either would be without SIGNS." That of k may be 0. */
    private static void likelierNought() {
        TwoFliers x = new TwoFliers();
        Make.story(x, 1, "r0:0=1");
        Make.story(x, 2, "r119:0=1");
        Make.story(x, 3, "");
        x.sign(4, 0, 0, 12);
        watch(x).odds("that of k is 0", () -> x.likelier(1, 2), 0, 0, 1);
        watch(x).finding("that of l is 0", () -> x.likelier(2, 1), Make.NOUGHT);
        watch(x).finding("both are 0", () -> x.likelier(1, 0), Make.NOUGHT);
        watch(x).finding("as itself", () -> x.likelier(1, 1), Make.NOUGHT);
        watch(x).finding("what k would be without SIGNS", () -> x.likelier(3, 2), Make.NOUGHT);
        watch(x).finding("what l would be without SIGNS", () -> x.likelier(2, 3), Make.NOUGHT);
        x.undo(0, 1);
        watch(x).finding("k without SIGNS", () -> x.likelier(3, 2), Make.NOUGHT);
        watch(x).finding("l without SIGNS", () -> x.likelier(2, 3), Make.NOUGHT);
        watch(x).odds("neither", () -> x.likelier(2, 1), 1, 1, 1);
    }

    /** likelier(): "BAD; NOTHING: either; SPENT; NOUGHT .. (In this order.)" */
    private static void likelierOrder() {
        TwoFliers x = ready();
        for (int e = 0; e < 6; e++) {
            x.sign(4, 0, 119, 12);
        }
        IntSupplier[] missing = {() -> x.likelier(2, 1), () -> x.likelier(1, 2), () -> x.likelier(2, 2), () -> x.likelier(0, 2)};
        for (IntSupplier call : missing) {
            watch(x).finding("NOTHING: either, ahead of SPENT", call, Make.NOTHING);
        }
        watch(x).same("SPENT ahead of NOUGHT", () -> x.likelier(1, 3), SPENT);
        CHECK.due("BAD ahead of all", x.likelier(2, 4), BAD);
    }

    /** line(): "that CELL, those on a SIDE of it, and on the SIDE across, one behind the other": how many. */
    private static void lineCells() {
        int[][] known = {
            // CELL, then how many on SIDES 0 (4), 1 (5), 2 (6), 3 (7)
            {0, 10, 1, 12, 10}, {11, 10, 10, 12, 1}, {108, 10, 10, 12, 1}, {119, 10, 1, 12, 10}, {66, 10, 10, 12, 10},
            {6, 10, 7, 12, 6}, {60, 10, 6, 12, 5}, {71, 10, 5, 12, 6}, {13, 10, 3, 12, 10}};
        for (int[] k : known) {
            TwoFliers x = new TwoFliers();
            Make.story(x, 1, "a=1");
            for (int s = 0; s < 8; s++) {
                int side = s;
                int many = k[1 + s % 4];
                CHECK.due("line of " + k[0] + " to side " + s, x.line(1, k[0], side), many);
                CHECK.due("each CELL once", 120 * x.upper(), many * x.lower());
            }
        }
    }

    /** line(): its odds, with that CELL once, and 0 by 1. */
    private static void lineTold() {
        TwoFliers x = new TwoFliers();
        Make.story(x, 1, "r66:0=5 r54:0=1 r78:0=1 r67:0=2 r0:0=1");
        for (int s = 0; s < 8; s++) {
            int side = s;
            int up = s % 4 == 0 ? 7 : s % 4 == 2 ? 7 : 5;
            long low = up == 7 ? 10 : 2;
            watch(x).odds("side " + s, () -> x.line(1, 66, side), s % 4 == 2 ? 12 : 10, up == 5 ? 1 : up, low);
        }
        watch(x).odds("nobody is there", () -> x.line(1, 119, 2), 12, 0, 1);
        watch(x).odds("through the end of the map", () -> x.line(1, 0, 6), 12, 1, 10);
    }

    /** The greatest numbers that can be: six SIGNS that weigh 12, six hours, ENDS 9, told exactly. */
    private static void greatestNumbers() {
        TwoFliers x = new TwoFliers();
        Make.flight(x, 66, 2, 2, 2, 2, 2, 2);
        Make.ends(x, 9, 9, 9, 9, 9, 9, 9);
        Make.story(x, 1, "a=99 r0:0=98");
        for (int e = 0; e < 6; e++) {
            x.sign(5, 0, 0, 1);
        }
        where(x, 0, 66, 1, 7);
        // 98 by 98 + 119 * 99, by 7 each.
        where(x, 1, 0, 14, 1697);
        CHECK.odds("likelier", x, x.likelier(0, 1), 1, 1, 1);
        CHECK.asked("sure", x, x.sure(0, 1, 7), 1, 66);
        for (int e = 3; e < 6; e++) {
            x.undo(e, 1);
        }
        CHECK.odds("falls", x, x.falls(0, 0, 66), 1, 0, 1);
        x.sign(4, 66, 66, 1);
        x.undo(2, 1);
        // 11 by 11 + 6 * 12, less 1 by 7.
        CHECK.odds("falls", x, x.falls(0, 6, 66), 1, 11 * 7 - 83, 83 * 7);
    }
}
