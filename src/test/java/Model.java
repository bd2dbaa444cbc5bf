import java.math.BigInteger;
import java.util.ArrayList;
import java.util.Arrays;
import java.util.List;
import java.util.TreeSet;
import java.util.regex.Matcher;
import java.util.regex.Pattern;

/** The document said a second time, way by way and without care for speed, to hold the class against. */
final class Model {
    static final int BAD = -1, FULL = -2, FINDING = -3, STATE = -4, SPENT = -6, NONE = -9;
    static final int NOTHING = 1, BEYOND = 2, UNLIKE = 3, NOUGHT = 4, SIZE = 5;
    private static final String[] SIDES = {"N", "NE", "E", "SE", "S", "SW", "W", "NW"};
    private static final Pattern STORY = Pattern.compile(
        " *(?:(?:r[0-9]{1,3}:[0-9]=[0-9]{1,2}|l[0-9]{1,3}:[0-7]=[0-9]{1,2}|a=[0-9]{1,2}) *)*");
    private static final Pattern ITEM = Pattern.compile("([rl])([0-9]{1,3}):([0-9])=([0-9]{1,2})|a=([0-9]{1,2})");
    private static final Pattern CELL = Pattern.compile("[rl]([0-9]{1,3})");

    /** A whole way: where it is at each hour, and its WEIGHT. */
    record Way(int[] cells, BigInteger weight) { }

    final int[][] rows = new int[6][];
    final byte[][] texts = new byte[4][];
    final int[][] stories = new int[4][];
    final List<int[]> signs = new ArrayList<>();
    int from = 0;
    int[] courses = {};
    int[] ends = {1};
    int asked = 0;
    BigInteger upper = BigInteger.ZERO;
    BigInteger lower = BigInteger.ONE;
    int finding = 0;
    final int[] findings = new int[6];

    private int found(int f) {
        finding = f;
        findings[f]++;
        return FINDING;
    }

    private static boolean in(int v, int low, int high) {
        return low <= v && v <= high;
    }

    private static boolean cell(int c) {
        return in(c, 0, 119);
    }

    private int ask(int v) {
        asked = v;
        return 1;
    }

    private int tell(BigInteger up, BigInteger low) {
        BigInteger g = up.gcd(low);
        upper = up.divide(g);
        lower = low.divide(g);
        return 1;
    }

    // rows and texts

    int row(int r, int n) {
        if (!in(r, 0, 5) || n > 40) return BAD;
        if (n < 0) return found(SIZE);
        rows[r] = new int[n];
        return n;
    }

    int lay(int r, int i, int v) {
        if (!in(r, 0, 5)) return BAD;
        if (rows[r] == null) return found(NOTHING);
        if (!in(i, 0, rows[r].length - 1)) return found(BEYOND);
        ask(rows[r][i]);
        rows[r][i] = v;
        return 1;
    }

    int at(int r, int i) {
        if (!in(r, 0, 5)) return BAD;
        if (rows[r] == null) return found(NOTHING);
        if (!in(i, 0, rows[r].length - 1)) return found(BEYOND);
        return ask(rows[r][i]);
    }

    int tear(int r) {
        if (!in(r, 0, 5)) return BAD;
        if (rows[r] == null) return found(NOTHING);
        rows[r] = null;
        return 1;
    }

    int copy(int r, int i, int to, int j, int n) {
        if (!in(r, 0, 5) || !in(to, 0, 5)) return BAD;
        if (n < 0) return found(SIZE);
        if (rows[r] == null || rows[to] == null) return found(NOTHING);
        if (i < 0 || j < 0 || (long) i + n > rows[r].length || (long) j + n > rows[to].length) return found(BEYOND);
        int[] taken = Arrays.copyOfRange(rows[r], i, i + n);
        for (int q = 0; q < n; q++) rows[to][j + q] = taken[q];
        return 1;
    }

    int mean(int r) {
        if (!in(r, 0, 5)) return BAD;
        if (rows[r] == null) return found(NOTHING);
        if (rows[r].length == 0) return found(NOUGHT);
        BigInteger sum = BigInteger.ZERO;
        for (int v : rows[r]) sum = sum.add(BigInteger.valueOf(v));
        return ask(sum.divide(BigInteger.valueOf(rows[r].length)).intValueExact());
    }

    int text(int t, int n) {
        if (!in(t, 0, 3) || n > 80) return BAD;
        if (n < 0) return found(SIZE);
        texts[t] = new byte[n];
        Arrays.fill(texts[t], (byte) 32);
        return n;
    }

    int put(int t, int i, int v) {
        if (!in(t, 0, 3)) return BAD;
        if (texts[t] == null) return found(NOTHING);
        if (!in(i, 0, texts[t].length - 1)) return found(BEYOND);
        int was = texts[t][i];
        int low = v & 255;
        texts[t][i] = (byte) (low > 127 ? low - 256 : low);
        return 1000 + was;
    }

    // flight and stories

    int flight(int c, int r) {
        if (!cell(c) || !in(r, 0, 5)) return BAD;
        if (rows[r] == null) return found(NOTHING);
        if (rows[r].length > 6) return found(SIZE);
        for (int v : rows[r]) if (!in(v, 0, 7)) return found(UNLIKE);
        from = c;
        courses = rows[r].clone();
        ends = new int[courses.length + 1];
        ends[courses.length] = 1;
        return courses.length;
    }

    int ends(int r) {
        if (!in(r, 0, 5)) return BAD;
        if (rows[r] == null) return found(NOTHING);
        if (rows[r].length != courses.length + 1) return found(SIZE);
        for (int v : rows[r]) if (!in(v, 0, 9)) return found(UNLIKE);
        int sum = Arrays.stream(rows[r]).sum();
        if (sum == 0) return found(NOUGHT);
        ends = rows[r].clone();
        return sum;
    }

    int course(int h, int side) {
        if (!in(h, 0, courses.length - 1) || !in(side, 0, 7)) return BAD;
        int was = courses[h];
        courses[h] = side;
        return was;
    }

    private int planned(int what) {
        if (what == 0) return from;
        if (what == 1) return courses.length;
        if (what <= 7) return what - 2 < courses.length ? courses[what - 2] : NONE;
        return what - 8 < ends.length ? ends[what - 8] : NONE;
    }

    int plan(int what) {
        return in(what, 0, 14) ? ask(planned(what)) : BAD;
    }

    private static String chars(byte[] text) {
        StringBuilder s = new StringBuilder();
        for (byte b : text) s.append((char) (b & 255));
        return s.toString();
    }

    /** The first place at which no STORY begins so any more, by asking a pattern about each beginning. */
    private static int faultOf(String s) {
        int fault = NONE;
        for (int n = 1; n <= s.length() && fault == NONE; n++) {
            Matcher m = STORY.matcher(s.substring(0, n));
            if (!m.matches() && !m.hitEnd()) fault = n - 1;
        }
        if (fault == NONE && !STORY.matcher(s).matches()) fault = s.length();
        Matcher m = CELL.matcher(s);
        while (m.find()) {
            if (fault != NONE && m.end() > fault) break;
            if (Integer.parseInt(m.group(1)) > 119) return m.end();
        }
        return fault;
    }

    int fault(int t) {
        if (!in(t, 0, 3)) return BAD;
        return texts[t] == null ? found(NOTHING) : faultOf(chars(texts[t]));
    }

    int story(int k, int t) {
        if (!in(k, 1, 3) || !in(t, 0, 3)) return BAD;
        if (texts[t] == null) return found(NOTHING);
        String s = chars(texts[t]);
        if (faultOf(s) != NONE) return STATE;
        stories[k] = new int[120];
        int items = 0;
        for (Matcher m = ITEM.matcher(s); m.find(); items++) {
            for (int c = 0; c < 120; c++) {
                if (m.group(5) != null) {
                    stories[k][c] = Integer.parseInt(m.group(5));
                    continue;
                }
                int middle = Integer.parseInt(m.group(2));
                int third = Integer.parseInt(m.group(3));
                boolean hit = m.group(1).equals("r") ? apart(middle, c) <= third : c == middle || onRay(middle, c, third);
                if (hit) stories[k][c] = Integer.parseInt(m.group(4));
            }
        }
        return items;
    }

    int lies(int k, int c) {
        if (!in(k, 1, 3) || !cell(c)) return BAD;
        return stories[k] == null ? found(NOTHING) : stories[k][c];
    }

    private static int apart(int c, int d) {
        return Math.max(Math.abs(c % 12 - d % 12), Math.abs(c / 12 - d / 12));
    }

    private static int stepX(int side) {
        return SIDES[side].contains("E") ? 1 : SIDES[side].contains("W") ? -1 : 0;
    }

    private static int stepY(int side) {
        return SIDES[side].contains("S") ? 1 : SIDES[side].contains("N") ? -1 : 0;
    }

    /** Whether d is some steps towards a SIDE from c, straight. */
    private static boolean onRay(int c, int d, int side) {
        for (int n = 1; n < 12; n++) {
            if (d % 12 == c % 12 + n * stepX(side) && d / 12 == c / 12 + n * stepY(side)) return true;
        }
        return false;
    }

    private static int sideOf(int c, int d) {
        int x = d % 12 - c % 12;
        int y = d / 12 - c / 12;
        if (c == d) return NONE;
        String s = (y < 0 ? "N" : y > 0 ? "S" : "") + (x < 0 ? "W" : x > 0 ? "E" : "");
        if (Math.abs(x) >= 2 * Math.abs(y)) s = x < 0 ? "W" : "E";
        else if (Math.abs(y) >= 2 * Math.abs(x)) s = y < 0 ? "N" : "S";
        return Arrays.asList(SIDES).indexOf(s);
    }

    int far(int c, int d) {
        if (!cell(c) || !cell(d)) return BAD;
        ask(sideOf(c, d));
        return apart(c, d);
    }

    // signs: KIND, a, b, c, UNDONE

    private static boolean fits(int kind, int a, int b, int c) {
        return switch (kind) {
            case 0 -> true;
            case 1, 2 -> in(a, 0, 6) && cell(b) && in(c, 0, 5);
            case 3 -> in(a, 0, 6);
            case 4 -> cell(a) && cell(b) && in(c, 0, 12);
            case 5, 6 -> cell(a) && in(b, 0, 7) && in(c, 0, 12);
            case 7 -> cell(a) && in(b, 0, 9) && in(c, 0, 12);
            default -> false;
        };
    }

    int sign(int kind, int a, int b, int c) {
        if (!fits(kind, a, b, c)) return BAD;
        if (signs.size() == 12) return FULL;
        if (kind == 0) signs.add(new int[] {0, 0, 0, 0, 0});
        else if (kind == 3) signs.add(new int[] {3, a, 0, 0, 0});
        else signs.add(new int[] {kind, a, b, c, 0});
        return signs.size() - 1;
    }

    int signs(int r) {
        if (!in(r, 0, 5)) return BAD;
        if (rows[r] == null) return found(NOTHING);
        if (rows[r].length % 4 != 0) return found(SIZE);
        int many = rows[r].length / 4;
        if (signs.size() + many > 12) return FULL;
        for (int i = 0; i < many * 4; i += 4) {
            if (!fits(rows[r][i], rows[r][i + 1], rows[r][i + 2], rows[r][i + 3])) return found(UNLIKE);
        }
        for (int i = 0; i < many * 4; i += 4) sign(rows[r][i], rows[r][i + 1], rows[r][i + 2], rows[r][i + 3]);
        return many;
    }

    private boolean isSign(int e) {
        return in(e, 0, signs.size() - 1);
    }

    int undo(int e, int is) {
        if (!isSign(e) || !in(is, 0, 1)) return BAD;
        int was = signs.get(e)[4];
        signs.get(e)[4] = is;
        return was;
    }

    int told(int e, int what) {
        return isSign(e) && in(what, 0, 4) ? ask(signs.get(e)[what]) : BAD;
    }

    private static int weight(int[] s, int place) {
        switch (s[0]) {
            case 1: {
                int off = Math.abs(s[3] - Math.max(0, 5 - apart(s[2], place)));
                return off > 3 ? 0 : new int[] {12, 8, 4, 1}[off];
            }
            case 2:
                return apart(s[2], place) <= s[3] ? 12 : apart(s[2], place) <= 2 * s[3] + 1 ? 4 : 1;
            case 3: {
                int off = Math.abs(s[1] - place);
                return off > 2 ? 0 : new int[] {12, 6, 2}[off];
            }
            case 4:
                return seen(s, place) ? 12 - s[3] : 12;
            case 5:
                return sideOf(s[1], place) == s[2] ? 12 : 12 - s[3];
            case 7:
                return apart(s[1], place) <= s[2] ? 12 : 12 - s[3];
            default:
                return 12;
        }
    }

    private static boolean seen(int[] s, int c) {
        int x = (c % 12 - s[1] % 12) * (c % 12 - s[2] % 12);
        int y = (c / 12 - s[1] / 12) * (c / 12 - s[2] / 12);
        return x <= 0 && y <= 0;
    }

    int mark(int e, int kind) {
        if (!isSign(e) || !in(kind, 1, 7)) return BAD;
        int[] s = signs.get(e);
        if (s[0] != kind && !(s[0] == 6 && kind == 5)) return found(UNLIKE);
        int full = 0;
        int saw = 0;
        int least = 99;
        for (int c = 0; c < 120; c++) {
            if (kind != 3 && weight(s, c) == 12) full++;
            if (kind == 4 && seen(s, c)) saw++;
            if (kind == 1 && weight(s, c) >= 8) least = Math.min(least, apart(s[2], c));
        }
        return switch (kind) {
            case 1 -> least == 99 ? NONE : least;
            case 3 -> s[1];
            case 4 -> saw;
            case 5 -> s[2];
            case 6 -> s[3];
            default -> full;
        };
    }

    int weighs(int e, int c) {
        if (!isSign(e)) return BAD;
        int[] s = signs.get(e);
        if (!in(c, 0, s[0] == 3 ? 6 : 119)) return BAD;
        return weight(s, c);
    }

    int near(int loud) {
        if (!in(loud, 0, 5)) return BAD;
        TreeSet<Integer> fars = new TreeSet<>();
        for (int far = 0; far <= 11; far++) {
            if (weight(new int[] {1, 0, 0, loud, 0}, far) >= 8) fars.add(far);
        }
        ask(fars.last());
        return fars.first();
    }

    // odds, way by way

    private boolean active(int e, int without) {
        return e != without && signs.get(e)[0] != 0 && signs.get(e)[4] == 0;
    }

    private int actives() {
        int n = 0;
        for (int e = 0; e < signs.size(); e++) n += active(e, -1) ? 1 : 0;
        return n;
    }

    private static int moved(int c, int side) {
        int x = c % 12 + stepX(side);
        int y = c / 12 + stepY(side);
        return in(x, 0, 11) && in(y, 0, 9) ? 12 * y + x : c;
    }

    private List<Way> ways(int without) {
        List<Way> all = new ArrayList<>();
        go(all, new int[] {from}, 1, without);
        return all;
    }

    private void go(List<Way> all, int[] cells, long ways, int without) {
        int h = cells.length - 1;
        int n = courses.length;
        BigInteger w = BigInteger.valueOf(ways * ends[h]).multiply(BigInteger.valueOf(4).pow(n - h));
        for (int e = 0; e < signs.size(); e++) {
            if (!active(e, without)) continue;
            int[] s = signs.get(e);
            int v = 12;
            if (s[0] == 3) v = weight(s, h);
            else if (s[0] > 2) v = weight(s, cells[h]);
            else if (s[1] <= h) v = weight(s, cells[s[1]]);
            w = w.multiply(BigInteger.valueOf(v));
        }
        if (w.signum() != 0) all.add(new Way(cells, w));
        if (h == n) return;
        for (int way = 0; way < 3; way++) {
            int[] longer = Arrays.copyOf(cells, h + 2);
            longer[h + 1] = moved(cells[h], (courses[h] + way + 7) % 8);
            go(all, longer, way == 1 ? ways * 2 : ways, without);
        }
    }

    private BigInteger[] weights(int k, int without) {
        BigInteger[] w = new BigInteger[120];
        Arrays.fill(w, BigInteger.ZERO);
        if (k == 0) {
            for (Way way : ways(without)) {
                int last = way.cells[way.cells.length - 1];
                w[last] = w[last].add(way.weight);
            }
            return w;
        }
        for (int c = 0; c < 120; c++) {
            w[c] = BigInteger.valueOf(stories[k][c]);
            for (int e = 0; e < signs.size(); e++) {
                int v = signs.get(e)[0] == 3 ? 12 : weight(signs.get(e), c);
                if (active(e, without)) w[c] = w[c].multiply(BigInteger.valueOf(v));
            }
        }
        return w;
    }

    private static BigInteger sum(BigInteger[] w) {
        BigInteger s = BigInteger.ZERO;
        for (BigInteger v : w) s = s.add(v);
        return s;
    }

    private static int first(BigInteger[] w) {
        int best = 0;
        for (int c = 0; c < 120; c++) if (w[c].compareTo(w[best]) > 0) best = c;
        return best;
    }

    /** 0 when odds by STORY k can be asked for. */
    private int bar(int k, int limit) {
        if (k > 0 && stories[k] == null) return found(NOTHING);
        return actives() > limit ? SPENT : 0;
    }

    int where(int k, int c) {
        if (!in(k, 0, 3) || !cell(c)) return BAD;
        int bar = bar(k, 6);
        if (bar != 0) return bar;
        BigInteger[] w = weights(k, -1);
        return sum(w).signum() == 0 ? found(NOUGHT) : tell(w[c], sum(w));
    }

    int most(int k) {
        if (!in(k, 0, 3)) return BAD;
        int bar = bar(k, 6);
        if (bar != 0) return bar;
        BigInteger[] w = weights(k, -1);
        if (sum(w).signum() == 0) return found(NOUGHT);
        tell(w[first(w)], sum(w));
        return first(w);
    }

    int sure(int k, int a, int b) {
        if (!in(k, 0, 3) || !in(a, 1, 99) || !in(b, 1, 99) || a > b) return BAD;
        int bar = bar(k, 6);
        if (bar != 0) return bar;
        BigInteger[] w = weights(k, -1);
        if (sum(w).signum() == 0) return found(NOUGHT);
        TreeSet<Integer> cells = new TreeSet<>();
        for (int c = 0; c < 120; c++) {
            if (w[c].multiply(BigInteger.valueOf(b)).compareTo(sum(w).multiply(BigInteger.valueOf(a))) >= 0) cells.add(c);
        }
        ask(cells.isEmpty() ? NONE : cells.first());
        return cells.size();
    }

    int hour(int h, int c) {
        if (!in(h, 0, 6) || !cell(c)) return BAD;
        int bar = bar(0, 6);
        if (bar != 0) return bar;
        BigInteger all = sum(weights(0, -1));
        if (all.signum() == 0) return found(NOUGHT);
        BigInteger some = BigInteger.ZERO;
        for (Way way : ways(-1)) if (h < way.cells.length && way.cells[h] == c) some = some.add(way.weight);
        return tell(some, all);
    }

    int ended(int h) {
        if (!in(h, 0, 6)) return BAD;
        int bar = bar(0, 6);
        if (bar != 0) return bar;
        BigInteger all = sum(weights(0, -1));
        if (all.signum() == 0) return found(NOUGHT);
        BigInteger some = BigInteger.ZERO;
        for (Way way : ways(-1)) if (h == way.cells.length - 1) some = some.add(way.weight);
        return tell(some, all);
    }

    int falls(int k, int e, int c) {
        if (!in(k, 0, 3) || !isSign(e) || !cell(c)) return BAD;
        int bar = bar(k, 3);
        if (bar != 0) return bar;
        BigInteger[] with = weights(k, -1);
        BigInteger[] without = weights(k, e);
        if (sum(with).signum() == 0 || sum(without).signum() == 0) return found(NOUGHT);
        BigInteger up = with[c].multiply(sum(without)).subtract(without[c].multiply(sum(with)));
        return tell(up, sum(with).multiply(sum(without)));
    }

    int turns(int k) {
        if (!in(k, 0, 3)) return BAD;
        int bar = bar(k, 6);
        if (bar != 0) return bar;
        BigInteger[] with = weights(k, -1);
        int bits = 0;
        for (int e = 0; e < signs.size(); e++) {
            if (signs.get(e)[4] == 1) continue;
            BigInteger[] without = weights(k, e);
            boolean was = sum(with).signum() > 0;
            if (was ? first(with) != first(without) : sum(without).signum() > 0) bits += 1 << e;
        }
        return bits;
    }

    int truly(int k, int e) {
        if (!in(k, 0, 3) || !isSign(e)) return BAD;
        if (k > 0 && stories[k] == null) return found(NOTHING);
        int[] s = signs.get(e);
        if (s[0] != 5 && s[0] != 6) return found(UNLIKE);
        if (actives() > 6) return SPENT;
        BigInteger[] w = weights(k, -1);
        if (sum(w).signum() == 0) return found(NOUGHT);
        BigInteger some = BigInteger.ZERO;
        for (int c = 0; c < 120; c++) if (sideOf(s[1], c) == s[2]) some = some.add(w[c]);
        return tell(some, sum(w));
    }

    int cross(int n) {
        if (!in(n, 1, 12)) return BAD;
        int[] on = new int[120];
        boolean any = false;
        for (int[] s : signs) {
            if (s[0] != 5 || s[4] == 1) continue;
            any = true;
            for (int c = 0; c < 120; c++) if (sideOf(s[1], c) == s[2]) on[c]++;
        }
        int many = 0;
        int best = 0;
        for (int c = 0; c < 120; c++) {
            if (on[c] >= n) many++;
            if (on[c] > on[best]) best = c;
        }
        ask(any ? best : NONE);
        return many;
    }

    private BigInteger unsigned(int k) {
        int[] undone = new int[signs.size()];
        for (int e = 0; e < undone.length; e++) {
            undone[e] = signs.get(e)[4];
            signs.get(e)[4] = 1;
        }
        BigInteger bare = sum(weights(k, -1));
        for (int e = 0; e < undone.length; e++) signs.get(e)[4] = undone[e];
        return bare.multiply(BigInteger.valueOf(12).pow(actives()));
    }

    int likelier(int k, int l) {
        if (!in(k, 0, 3) || !in(l, 0, 3)) return BAD;
        if (k > 0 && stories[k] == null || l > 0 && stories[l] == null) return found(NOTHING);
        if (actives() > 6) return SPENT;
        BigInteger all = sum(weights(l, -1));
        if (all.signum() == 0 || unsigned(k).signum() == 0 || unsigned(l).signum() == 0) return found(NOUGHT);
        tell(sum(weights(k, -1)).multiply(unsigned(l)), all.multiply(unsigned(k)));
        return 1 + Integer.signum(upper.compareTo(lower));
    }

    int line(int k, int c, int side) {
        if (!in(k, 0, 3) || !cell(c) || !in(side, 0, 7)) return BAD;
        int bar = bar(k, 6);
        if (bar != 0) return bar;
        BigInteger[] w = weights(k, -1);
        if (sum(w).signum() == 0) return found(NOUGHT);
        BigInteger some = BigInteger.ZERO;
        int many = 0;
        for (int d = 0; d < 120; d++) {
            if (d == c || onRay(c, d, side) || onRay(d, c, side)) {
                some = some.add(w[d]);
                many++;
            }
        }
        tell(some, sum(w));
        return many;
    }

    // drags, courses, draws

    int drag(int k, int start, int n, int r) {
        if (!in(k, 0, 3) || !cell(start) || !in(n, 0, 4) || !in(r, 0, 5)) return BAD;
        int bar = bar(k, 6);
        if (bar != 0) return bar;
        BigInteger[] w = weights(k, -1);
        if (sum(w).signum() == 0) return found(NOUGHT);
        List<int[]> ways = new ArrayList<>(List.of(new int[] {start}));
        for (int h = 0; h < n; h++) {
            List<int[]> longer = new ArrayList<>();
            for (int[] way : ways) {
                for (int c = 0; c < 120; c++) {
                    if (apart(way[h], c) > 1) continue;
                    int[] more = Arrays.copyOf(way, h + 2);
                    more[h + 1] = c;
                    longer.add(more);
                }
            }
            ways = longer;
        }
        int[] bestWay = null;
        BigInteger best = null;
        for (int[] way : ways) {
            BigInteger some = BigInteger.ZERO;
            for (int c : Arrays.stream(way).distinct().toArray()) some = some.add(w[c]);
            if (best == null || some.compareTo(best) > 0) {
                best = some;
                bestWay = way;
            }
        }
        tell(best, sum(w));
        rows[r] = bestWay;
        return (int) Arrays.stream(bestWay).distinct().count();
    }

    private boolean comesIn(int[] by, int goal, int d) {
        int c = from;
        boolean near = apart(c, goal) <= d;
        for (int side : by) {
            c = moved(c, side);
            near |= apart(c, goal) <= d;
        }
        return near;
    }

    int brought(int goal, int d) {
        if (!cell(goal) || !in(d, 0, 5)) return BAD;
        if (comesIn(courses, goal, d)) {
            ask(0);
            return 0;
        }
        int n = courses.length;
        for (int h = 0; h < n; h++) {
            for (int s = 0; s < 8; s++) {
                int[] by = courses.clone();
                by[h] = s;
                if (comesIn(by, goal, d)) return ask(10 * h + s);
            }
        }
        for (int h = 0; h < n; h++) {
            for (int s = 0; s < 8; s++) {
                for (int g = h + 1; g < n; g++) {
                    for (int t = 0; t < 8; t++) {
                        int[] by = courses.clone();
                        by[h] = s;
                        by[g] = t;
                        if (comesIn(by, goal, d)) return ask(10 * h + s + 100 + 1000 * g + 100 * t) + 1;
                    }
                }
            }
        }
        return NONE;
    }

    int draw(int seed, int r) {
        if (!in(seed, 1, 2147483646) || !in(r, 0, 5)) return BAD;
        BigInteger v = BigInteger.valueOf(seed);
        rows[r] = new int[courses.length + 1];
        rows[r][0] = from;
        for (int h = 0; h < courses.length; h++) {
            v = v.multiply(BigInteger.valueOf(48271)).mod(BigInteger.valueOf(2147483647));
            int by = new int[] {0, 0, 7, 1}[v.intValue() % 4];
            rows[r][h + 1] = moved(rows[r][h], (courses[h] + by) % 8);
        }
        return v.intValue();
    }

    int image(int r) {
        if (!in(r, 0, 5)) return BAD;
        rows[r] = new int[16];
        for (int i = 0; i < 15; i++) rows[r][i] = planned(i);
        for (int e = 0; e < signs.size(); e++) rows[r][15] += signs.get(e)[4] << e;
        return 16;
    }

    int on(int r) {
        if (!in(r, 0, 5)) return BAD;
        if (rows[r] == null) return found(NOTHING);
        int[] v = rows[r];
        if (v.length != 16) return found(SIZE);
        if (!cell(v[0]) || !in(v[1], 0, 6) || !in(v[15], 0, (1 << signs.size()) - 1)) return found(UNLIKE);
        int sum = 0;
        for (int h = 0; h < 6; h++) if (h < v[1] ? !in(v[2 + h], 0, 7) : v[2 + h] != NONE) return found(UNLIKE);
        for (int h = 0; h < 7; h++) {
            if (h <= v[1] ? !in(v[8 + h], 0, 9) : v[8 + h] != NONE) return found(UNLIKE);
            if (h <= v[1]) sum += v[8 + h];
        }
        if (sum == 0) return found(UNLIKE);
        from = v[0];
        courses = Arrays.copyOfRange(v, 2, 2 + v[1]);
        ends = Arrays.copyOfRange(v, 8, 9 + v[1]);
        for (int e = 0; e < signs.size(); e++) signs.get(e)[4] = v[15] >> e & 1;
        return 1;
    }

    // what is told

    int count(int what) {
        int n = 0;
        switch (what) {
            case 0: return courses.length;
            case 1: for (int[] s : stories) n += s == null ? 0 : 1; return n;
            case 2: return signs.size();
            case 3: for (int[] s : signs) n += s[0] == 5 || s[0] == 6 ? 1 : 0; return n;
            case 4: for (int[] s : signs) n += s[4]; return n;
            case 5: for (int[] r : rows) n += r == null ? 0 : 1; return n;
            case 6: for (byte[] t : texts) n += t == null ? 0 : 1; return n;
            default: return BAD;
        }
    }

    int findings(int f) {
        return in(f, 1, 5) ? findings[f] : BAD;
    }

    long digest() {
        List<Integer> v = new ArrayList<>();
        for (int i = 0; i <= 6; i++) v.add(count(i));
        for (int i = 0; i <= 14; i++) v.add(planned(i));
        for (int k = 1; k <= 3; k++) {
            if (stories[k] == null) v.add(-1);
            else for (int w : stories[k]) v.add(w);
        }
        for (int[] s : signs) for (int w : s) v.add(w);
        for (int[] r : rows) {
            v.add(r == null ? -1 : r.length);
            if (r != null) for (int w : r) v.add(w);
        }
        for (byte[] t : texts) {
            v.add(t == null ? -1 : t.length);
            if (t != null) for (byte w : t) v.add((int) w);
        }
        long h = 17;
        for (int w : v) h = 31 * h + w;
        return h;
    }
}
