/** Counts answers that are not as due. */
final class Check {
    private final String name;
    private int wrong = 0;
    private int made = 0;

    Check(String name) {
        this.name = name;
    }

    void due(String what, long got, long want) {
        made++;
        if (got != want) {
            wrong++;
            System.out.println(name + ": " + what + " answered " + got + ", due is " + want);
        }
    }

    /** A call that tells by asked(). */
    void asked(String what, TwoFliers x, int answer, int wantAnswer, int wantAsked) {
        due(what, answer, wantAnswer);
        due(what + " asked()", x.asked(), wantAsked);
    }

    /** A call that tells by upper() and lower(). */
    void odds(String what, TwoFliers x, int answer, int wantAnswer, long up, long low) {
        due(what, answer, wantAnswer);
        due(what + " upper()", x.upper(), up);
        due(what + " lower()", x.lower(), low);
    }

    /** A call that was refused by a FINDING. */
    void finding(String what, TwoFliers x, int answer, int want) {
        due(what, answer, TwoFliers.FINDING);
        due(what + " finding()", x.finding(), want);
    }

    void end() {
        System.out.println(name + ": " + made + " checks, " + wrong + " wrong");
        if (wrong != 0) {
            System.exit(1);
        }
    }
}
