import java.util.function.IntSupplier;

/** Makes one call and holds all that is told behind it against all that was told ahead: only what may change may have changed. */
final class Watch {
    private final Check check;
    private final TwoFliers x;
    private final long[] was = new long[5];
    private final int[] findings = new int[6];

    Watch(Check check, TwoFliers x) {
        this.check = check;
        this.x = x;
    }

    private void look() {
        was[0] = x.digest();
        was[1] = x.asked();
        was[2] = x.upper();
        was[3] = x.lower();
        was[4] = x.finding();
        for (int f = 1; f <= 5; f++) {
            findings[f] = x.findings(f);
        }
    }

    private void answers(String what, IntSupplier call, int answer) {
        look();
        check.due(what, call.getAsInt(), answer);
    }

    private void stateStays(String what) {
        check.due(what + ": digest() stays", x.digest(), was[0]);
    }

    private void askedIs(String what, long asked) {
        check.due(what + ": asked()", x.asked(), asked);
    }

    private void fractionIs(String what, long up, long low) {
        check.due(what + ": upper()", x.upper(), up);
        check.due(what + ": lower()", x.lower(), low);
    }

    private void findingIs(String what, long latest, int oneMoreOf) {
        check.due(what + ": finding()", x.finding(), latest);
        for (int f = 1; f <= 5; f++) {
            check.due(what + ": findings(" + f + ")", x.findings(f), findings[f] + (f == oneMoreOf ? 1 : 0));
        }
    }

    /** Answers, and changes nothing at all. */
    void same(String what, IntSupplier call, int answer) {
        answers(what, call, answer);
        stateStays(what);
        askedIs(what, was[1]);
        fractionIs(what, was[2], was[3]);
        findingIs(what, was[4], 0);
    }

    void bad(String what, IntSupplier call) {
        same(what + ": BAD", call, TwoFliers.BAD);
    }

    /** Refused by a FINDING: that is the latest, and was answered once more. */
    void finding(String what, IntSupplier call, int finding) {
        answers(what, call, TwoFliers.FINDING);
        stateStays(what);
        askedIs(what, was[1]);
        fractionIs(what, was[2], was[3]);
        findingIs(what, finding, finding);
    }

    /** Tells by asked(), and changes nothing else. */
    void asks(String what, IntSupplier call, int answer, int asked) {
        answers(what, call, answer);
        stateStays(what);
        askedIs(what, asked);
        fractionIs(what, was[2], was[3]);
        findingIs(what, was[4], 0);
    }

    /** Tells by upper() and lower(), and changes nothing else. */
    void odds(String what, IntSupplier call, int answer, long up, long low) {
        answers(what, call, answer);
        stateStays(what);
        askedIs(what, was[1]);
        fractionIs(what, up, low);
        findingIs(what, was[4], 0);
    }

    /** Changes what is held, but nothing of what was told. */
    void changes(String what, IntSupplier call, int answer) {
        answers(what, call, answer);
        askedIs(what, was[1]);
        fractionIs(what, was[2], was[3]);
        findingIs(what, was[4], 0);
    }
}
