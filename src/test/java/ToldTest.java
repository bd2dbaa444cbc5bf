/** Promises 41 to 47: what is told. */
public final class ToldTest {
    private static final Check CHECK = new Check("ToldTest");

    public static void main(String[] args) {
        before();
        asked();
        fractions();
        count();
        findings();
        refusedChangesNothing();
        digest();
        CHECK.end();
    }

    private static void before() {
        TwoFliers x = new TwoFliers();
        CHECK.due("asked", x.asked(), 0);
        CHECK.due("upper", x.upper(), 0);
        CHECK.due("lower", x.lower(), 1);
        CHECK.due("finding", x.finding(), 0);
        for (int f = 1; f <= 5; f++) {
            CHECK.due("findings " + f, x.findings(f), 0);
        }
    }

    /** Promise 41: each call that tells by it, and a few that do not. */
    private static void asked() {
        TwoFliers x = new TwoFliers();
        Make.row(x, 1, 5, 7);
        Make.story(x, 1, "r7:0=1");
        x.sign(5, 8, 2, 3);
        CHECK.asked("lay", x, x.lay(1, 0, 9), 1, 5);
        CHECK.asked("at", x, x.at(1, 1), 1, 7);
        CHECK.asked("mean", x, x.mean(1), 1, 8);
        CHECK.asked("plan NONE", x, x.plan(2), 1, -9);
        CHECK.asked("far", x, x.far(0, 12), 1, 4);
        CHECK.asked("told", x, x.told(0, 1), 1, 8);
        CHECK.asked("near", x, x.near(2), 2, 4);
        CHECK.asked("sure", x, x.sure(1, 1, 1), 1, 7);
        CHECK.asked("cross", x, x.cross(1), 5, 9);
        CHECK.asked("brought NONE", x, x.brought(9, 5), TwoFliers.NONE, 9);
        CHECK.asked("brought", x, x.brought(5, 5), 0, 0);
        x.near(2);
        x.row(0, 0);
        x.copy(1, 0, 1, 1, 1);
        x.text(2, 1);
        x.put(2, 0, 50);
        x.flight(0, 0);
        x.fault(2);
        x.lies(1, 7);
        x.weighs(0, 5);
        x.mark(0, 5);
        x.most(1);
        x.where(0, 3);
        x.turns(1);
        x.line(0, 3, 3);
        x.drag(0, 0, 0, 0);
        x.draw(5, 0);
        x.image(0);
        x.on(0);
        x.count(2);
        x.digest();
        x.tear(0);
        CHECK.due("asked() stays", x.asked(), 4);
    }

    /** Promises 42, 43. */
    private static void fractions() {
        TwoFliers x = new TwoFliers();
        Make.story(x, 1, "r0:0=6 r1:0=9");
        CHECK.odds("lowest terms", x, x.where(1, 0), 1, 2, 5);
        x.sure(1, 1, 2);
        x.turns(1);
        x.cross(1);
        x.brought(5, 5);
        x.where(1, 120);
        x.where(2, 0);
        CHECK.due("upper stays", x.upper(), 2);
        CHECK.due("lower stays", x.lower(), 5);
        CHECK.odds("0 by 1", x, x.where(1, 5), 1, 0, 1);
        x.sign(4, 0, 0, 12);
        CHECK.odds("below 0", x, x.falls(1, 0, 0), 1, -2, 5);
    }

    /** Promise 44. */
    private static void count() {
        TwoFliers x = new TwoFliers();
        Make.flight(x, 0, 1, 1, 1);
        Make.story(x, 3, "");
        Make.story(x, 1, "");
        Make.story(x, 1, "");
        x.sign(5, 0, 0, 0);
        x.sign(6, 0, 0, 0);
        x.sign(4, 0, 0, 0);
        x.sign(0, 0, 0, 0);
        x.undo(0, 1);
        x.undo(3, 1);
        x.row(5, 0);
        x.text(3, 0);
        x.text(2, 5);
        int[] due = {3, 2, 4, 2, 2, 2, 3};
        for (int what = 0; what <= 6; what++) {
            CHECK.due("count(" + what + ")", x.count(what), due[what]);
        }
        CHECK.due("count(-1)", x.count(-1), TwoFliers.BAD);
        CHECK.due("count(7)", x.count(7), TwoFliers.BAD);
    }

    /** Promises 45, 46. */
    private static void findings() {
        TwoFliers x = new TwoFliers();
        CHECK.due("findings(0)", x.findings(0), TwoFliers.BAD);
        CHECK.due("findings(6)", x.findings(6), TwoFliers.BAD);
        CHECK.due("findings(-1)", x.findings(-1), TwoFliers.BAD);
        CHECK.finding("1", x, x.at(0, 0), 1);
        x.row(0, 1);
        CHECK.finding("2", x, x.at(0, 1), 2);
        x.sign(0, 0, 0, 0);
        CHECK.finding("3", x, x.mark(0, 1), 3);
        x.row(0, 0);
        CHECK.finding("4", x, x.mean(0), 4);
        CHECK.finding("5", x, x.row(0, -1), 5);
        CHECK.finding("5 again", x, x.text(0, -1), 5);
        x.row(0, 1);
        x.at(0, 0);
        x.row(9, 9);
        CHECK.due("the latest stays", x.finding(), 5);
        int[] due = {1, 1, 1, 1, 2};
        for (int f = 1; f <= 5; f++) {
            CHECK.due("findings(" + f + ")", x.findings(f), due[f - 1]);
        }
    }

    private static void refusedChangesNothing() {
        TwoFliers x = new TwoFliers();
        Make.flight(x, 66, 2, 2);
        Make.story(x, 1, "a=5 r3:1=2");
        x.sign(4, 66, 68, 3);
        x.where(0, 68);
        x.near(3);
        long was = x.digest();
        long up = x.upper();
        int[] answers = {
            x.row(0, 41), x.row(0, -1), x.lay(0, 2, 9), x.tear(1), x.copy(0, 0, 0, 2, 1), x.text(0, 81), x.text(0, -2),
            x.put(0, 80, 1), x.flight(66, 1), x.ends(0), x.course(2, 0), x.plan(15), x.story(2, 1), x.sign(4, 0, 0, 13),
            x.signs(0), x.undo(1, 1), x.told(0, 5), x.near(6), x.where(2, 0), x.most(2), x.sure(1, 3, 2), x.hour(7, 0),
            x.falls(0, 1, 0), x.truly(0, 0), x.cross(0), x.likelier(0, 2), x.line(0, 0, 8), x.drag(0, 0, 5, 0),
            x.drag(2, 0, 1, 0), x.brought(0, 6), x.draw(0, 0), x.image(6), x.on(0)};
        for (int i = 0; i < answers.length; i++) {
            CHECK.due("refusal " + i, answers[i] == TwoFliers.BAD || answers[i] == TwoFliers.FINDING ? 1 : 0, 1);
        }
        CHECK.due("digest", x.digest(), was);
        CHECK.due("asked", x.asked(), 3);
        CHECK.due("upper", x.upper(), up);
    }

    /** Promise 47: said again by the calls of the face. */
    private static void digest() {
        TwoFliers x = new TwoFliers();
        Make.flight(x, 66, 2, 2);
        Make.story(x, 2, "a=5 r3:1=2");
        x.sign(4, 66, 68, 3);
        x.sign(0, 66, 68, 3);
        x.undo(0, 1);
        x.text(3, 2);
        x.put(3, 1, -1);
        x.near(2);
        long got = x.digest();
        CHECK.due("asked() stays", x.asked(), 4);
        long h = 17;
        for (int what = 0; what <= 6; what++) {
            h = 31 * h + x.count(what);
        }
        for (int what = 0; what <= 14; what++) {
            x.plan(what);
            h = 31 * h + x.asked();
        }
        h = 31 * h - 1;
        for (int cell = 0; cell < 120; cell++) {
            h = 31 * h + x.lies(2, cell);
        }
        h = 31 * h - 1;
        int[] rest = {4, 66, 68, 3, 1, 0, 0, 0, 0, 0, 2, 2, 2, -1, -1, -1, -1, -1, 10};
        for (int v : rest) {
            h = 31 * h + v;
        }
        for (char c : "a=5 r3:1=2".toCharArray()) {
            h = 31 * h + c;
        }
        for (int v : new int[] {-1, -1, 2, 32, -1}) {
            h = 31 * h + v;
        }
        CHECK.due("digest", got, h);
        long fresh = 17;
        int[] first = {0, 0, 0, 0, 0, 0, 0, 0, 0, -9, -9, -9, -9, -9, -9, 1, -9, -9, -9, -9, -9, -9};
        for (int v : first) {
            fresh = 31 * fresh + v;
        }
        for (int i = 0; i < 3 + 6 + 4; i++) {
            fresh = 31 * fresh - 1;
        }
        CHECK.due("digest of a new object", new TwoFliers().digest(), fresh);
    }
}
