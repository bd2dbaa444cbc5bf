import java.util.Random;

/** Runs of drawn calls on the class and on the model; after each call all that is told must be alike. */
public final class ModelTest {
    private static final int RUNS = 2500, CALLS_OF_FACE = 42;
    /** An object is promised for 512 calls; the dearest step makes some hundred. */
    private static final int CALLS = 512, DEAREST_STEP = 110;
    private static final int[] ODD = {-1, -2147483648, 2147483647, 120, 41, 81, 7, 8, 13, 6, 4, 5, 12, 99, 100, -9, 0, 1, 2};
    private static final String SIGNS = "rla:= 0123456789x";
    private static final String[] STORIES = {
        "a=1", "a=1 r40:2=9 l66:4=20", "r115:1=50", "", "   ", "r60:9=99 r60:1=0", "l0:3=7l11:5=8 a=0 r5:0=1",
        "r120:1=1", "l5:8=1", "a=100", "r119:9=1 x", "r1:2=3 r", "r1:2=", "l119:7=99 r052:2=07", "r1 :2=3", "r1234:1=1"};

    private final Random random;
    private final TwoFliers x = new TwoFliers();
    private final Model m = new Model();
    private final int[] a = new int[5];
    private int made = 0;

    private ModelTest(long seed) {
        random = new Random(seed);
    }

    /** Mostly 0 .. most, now and then a number from outside. */
    private int number(int most) {
        return random.nextInt(25) == 0 ? ODD[random.nextInt(ODD.length)] : random.nextInt(most + 1);
    }

    private int cell() {
        return number(119);
    }

    private int sign() {
        return number(Math.max(1, m.signs.size() - 1));
    }

    private boolean layNumbers() {
        int r = random.nextInt(6);
        int kind = random.nextInt(4);
        int n = kind == 0 ? m.courses.length + 1 : kind == 1 ? random.nextInt(7) : kind == 2 ? 4 * random.nextInt(3) : random.nextInt(41);
        made += n + 2;
        if (x.row(r, n) != m.row(r, n)) return false;
        for (int i = 0; i < n; i++) {
            int v = kind == 0 ? number(9) * random.nextInt(2) : kind == 1 ? number(7) : kind == 2 ? signNumber(i % 4) : random.nextInt();
            if (x.lay(r, i, v) != m.lay(r, i, v)) return false;
        }
        a[0] = r;
        return kind == 0 ? x.ends(r) == m.ends(r) : kind == 1 ? flown(r) : kind == 2 ? x.signs(r) == m.signs(r) : x.mean(r) == m.mean(r);
    }

    private boolean flown(int r) {
        int c = cell();
        return x.flight(c, r) == m.flight(c, r);
    }

    private int signNumber(int place) {
        if (place == 0) {
            int kind = number(7);
            a[4] = kind;
            drawSign(kind);
        }
        return place == 0 ? a[4] : a[place];
    }

    private void drawSign(int kind) {
        boolean byHour = kind >= 1 && kind <= 3;
        a[1] = byHour ? number(6) : nearFlight();
        a[2] = kind == 7 ? number(9) : kind == 5 || kind == 6 ? number(7) : nearFlight();
        a[3] = kind <= 3 ? number(5) : number(12);
    }

    private int nearFlight() {
        return random.nextInt(3) == 0 ? cell() : Math.floorMod(m.from + random.nextInt(5) - 2 + 12 * (random.nextInt(5) - 2), 120);
    }

    private boolean write() {
        int t = random.nextInt(4);
        String s = STORIES[random.nextInt(STORIES.length)];
        if (random.nextInt(4) == 0) s += STORIES[random.nextInt(STORIES.length)];
        int n = Math.min(80, s.length());
        made += n + 5;
        boolean alike = x.text(t, n) == m.text(t, n);
        for (int i = 0; i < n; i++) alike &= x.put(t, i, s.charAt(i)) == m.put(t, i, s.charAt(i));
        for (int i = random.nextInt(3); i < 2 && n > 0; i++) {
            int at = random.nextInt(n);
            int v = random.nextInt(9) == 0 ? random.nextInt() : SIGNS.charAt(random.nextInt(SIGNS.length()));
            alike &= x.put(t, at, v) == m.put(t, at, v);
        }
        int k = 1 + random.nextInt(3);
        return alike && x.fault(t) == m.fault(t) && x.story(k, t) == m.story(k, t);
    }

    private boolean call(int which) {
        for (int i = 0; i < 5; i++) a[i] = number(i == 0 ? 5 : 12);
        int k = number(3);
        int c = random.nextInt(3) == 0 ? cell() : nearFlight();
        int e = sign();
        switch (which) {
            case 0: return x.row(a[0], a[1]) == m.row(a[0], a[1]);
            case 1: return x.lay(a[0], a[1], a[2]) == m.lay(a[0], a[1], a[2]);
            case 2: return x.at(a[0], a[1]) == m.at(a[0], a[1]);
            case 3: return x.tear(a[0]) == m.tear(a[0]);
            case 4: return x.copy(a[0], a[1], k, a[2], a[3]) == m.copy(a[0], a[1], k, a[2], a[3]);
            case 5: return x.mean(a[0]) == m.mean(a[0]);
            case 6: return x.text(k, a[1]) == m.text(k, a[1]);
            case 7: return x.fault(k) == m.fault(k);
            case 8: return x.course(a[0], a[1]) == m.course(a[0], a[1]);
            case 9: return x.plan(a[1] + 2) == m.plan(a[1] + 2);
            case 10: return x.story(k, a[0]) == m.story(k, a[0]);
            case 11: return x.lies(k, c) == m.lies(k, c);
            case 12: return x.far(c, a[1]) == m.far(c, a[1]);
            case 13: drawSign(a[4] = number(7)); return x.sign(a[4], a[1], a[2], a[3]) == m.sign(a[4], a[1], a[2], a[3]);
            case 14: return x.undo(e, k / 2) == m.undo(e, k / 2);
            case 15: return x.told(e, a[0]) == m.told(e, a[0]);
            case 16: return x.mark(e, a[1]) == m.mark(e, a[1]);
            case 17: return x.weighs(e, c) == m.weighs(e, c);
            case 18: return x.near(a[0]) == m.near(a[0]);
            case 19: return x.where(k, c) == m.where(k, c);
            case 20: return x.most(k) == m.most(k);
            case 21: return x.sure(k, a[1], a[2] * 8) == m.sure(k, a[1], a[2] * 8);
            case 22: return x.hour(a[0], c) == m.hour(a[0], c);
            case 23: return x.ended(a[0]) == m.ended(a[0]);
            case 24: return x.falls(k, e, c) == m.falls(k, e, c);
            case 25: return x.turns(k) == m.turns(k);
            case 26: return x.truly(k, e) == m.truly(k, e);
            case 27: return x.cross(a[0]) == m.cross(a[0]);
            case 28: return x.likelier(k, a[0]) == m.likelier(k, a[0]);
            case 29: return x.line(k, c, a[1]) == m.line(k, c, a[1]);
            case 30: return x.drag(k, c, a[0], a[0]) == m.drag(k, c, a[0], a[0]);
            case 31: return x.brought(c, a[0]) == m.brought(c, a[0]);
            case 32: a[1] = random.nextInt(); return x.draw(a[1], a[0]) == m.draw(a[1], a[0]);
            case 33: return x.image(a[0]) == m.image(a[0]);
            case 34: return x.on(a[0]) == m.on(a[0]);
            case 35: return x.count(a[1]) == m.count(a[1]);
            case 36: return x.findings(a[0]) == m.findings(a[0]);
            case 37: return write();
            case 38: return undoMany() && layNumbers();
            case 39: return imageChanged();
            default: return undoMany();
        }
    }

    /** UNDONE are most of many, so that odds are seldom SPENT. */
    private boolean undoMany() {
        boolean alike = true;
        made += m.signs.size();
        for (int e = 0; e < m.signs.size(); e++) {
            int is = random.nextInt(m.signs.size()) < 4 ? 0 : 1;
            alike &= x.undo(e, is) == m.undo(e, is);
        }
        return alike;
    }

    private boolean imageChanged() {
        int r = random.nextInt(6);
        made += 4;
        boolean alike = x.image(r) == m.image(r);
        for (int i = random.nextInt(3); i < 2; i++) {
            int at = random.nextInt(16);
            int v = random.nextInt(3) == 0 ? -9 : number(9);
            alike &= x.lay(r, at, v) == m.lay(r, at, v);
        }
        return alike && x.on(r) == m.on(r);
    }

    private boolean toldAlike() {
        made += 5;
        boolean alike = x.asked() == m.asked && x.finding() == m.finding && x.digest() == m.digest();
        alike &= x.upper() == m.upper.longValueExact() && x.lower() == m.lower.longValueExact();
        return alike;
    }

    private boolean findingsAlike() {
        boolean alike = true;
        for (int f = 1; f <= 5; f++) alike &= x.findings(f) == m.findings[f];
        return alike;
    }

    /** Some SIGNS ahead, so that a short run, too, has many. */
    private boolean signsAhead() {
        boolean alike = true;
        for (int n = random.nextInt(12); n > 0; n--, made++) alike &= call(13);
        return alike;
    }

    private int firstUnlike() {
        if (!signsAhead()) return 13;
        for (int n = 0; made < CALLS - DEAREST_STEP; n++) {
            made++;
            int which = n == 0 ? 38 : random.nextInt(12) == 0 ? 13 : random.nextInt(CALLS_OF_FACE);
            if (!call(which) || !toldAlike()) return which;
        }
        return findingsAlike() ? -1 : 36;
    }

    public static void main(String[] args) {
        Check check = new Check("ModelTest");
        for (int seed = 1; seed <= RUNS; seed++) {
            check.due("seed " + seed + ": the first call that is unlike", new ModelTest(seed).firstUnlike(), -1);
        }
        check.end();
    }
}
