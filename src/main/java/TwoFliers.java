import java.util.Arrays;

/** A flight over an ocean, the signs of it, and the odds of where it ended. */
public final class TwoFliers {
    public static final int BAD = -1, FULL = -2, FINDING = -3, STATE = -4, SPENT = -6, NONE = -9;

    private static final int NOTHING = 1, BEYOND = 2, UNLIKE = 3, NOUGHT = 4, SIZE = 5;
    private static final int ROWS = 6, ROW_MOST = 40, TEXTS = 4, TEXT_MOST = 80;
    private static final int STORIES = 3, PLANS = 15, IMAGE = 16, MISSING = -1;
    private static final int MOST_SIGNS = 6, MOST_SIGNS_FALLS = 3;

    private final int[][] rows = new int[ROWS][ROW_MOST];
    private final int[] rowSizes = new int[ROWS];
    private final byte[][] texts = new byte[TEXTS][TEXT_MOST];
    private final int[] textSizes = new int[TEXTS];
    private final Odds odds = new Odds();
    private final Plane plane = odds.plane;
    private final Book book = odds.book;
    private final int[][] stories = odds.stories;
    private final boolean[] storyThere = new boolean[STORIES];
    private final Reader reader = new Reader();
    private final Ship ship = new Ship();
    private int lastAsked = 0;
    private long lastUpper = 0;
    private long lastLower = 1;
    private int lastFinding = 0;
    private final int[] findingCounts = new int[SIZE + 1];

    public TwoFliers() {
        Arrays.fill(rowSizes, MISSING);
        Arrays.fill(textSizes, MISSING);
    }

    // ---- 1 rows, texts, flights, stories

    public int row(int r, int n) {
        if (!isRow(r) || n > ROW_MOST) {
            return BAD;
        }
        if (n < 0) {
            return found(SIZE);
        }
        renew(r, n);
        return n;
    }

    public int lay(int r, int i, int v) {
        int refusal = barredPlace(r, i);
        if (refusal != 0) {
            return refusal;
        }
        lastAsked = rows[r][i];
        rows[r][i] = v;
        return 1;
    }

    public int at(int r, int i) {
        int refusal = barredPlace(r, i);
        if (refusal != 0) {
            return refusal;
        }
        lastAsked = rows[r][i];
        return 1;
    }

    public int tear(int r) {
        if (!isRow(r)) {
            return BAD;
        }
        if (rowSizes[r] == MISSING) {
            return found(NOTHING);
        }
        rowSizes[r] = MISSING;
        return 1;
    }

    public int copy(int r, int i, int to, int j, int n) {
        if (!isRow(r) || !isRow(to)) {
            return BAD;
        }
        if (n < 0) {
            return found(SIZE);
        }
        if (rowSizes[r] == MISSING || rowSizes[to] == MISSING) {
            return found(NOTHING);
        }
        if (!holds(rowSizes[r], i, n) || !holds(rowSizes[to], j, n)) {
            return found(BEYOND);
        }
        System.arraycopy(rows[r], i, rows[to], j, n);
        return 1;
    }

    public int mean(int r) {
        if (!isRow(r)) {
            return BAD;
        }
        int size = rowSizes[r];
        if (size == MISSING) {
            return found(NOTHING);
        }
        if (size <= 0) {
            return found(NOUGHT);
        }
        long sum = 0;
        for (int i = 0; i < size; i++) {
            sum += rows[r][i];
        }
        lastAsked = (int) (sum / size);
        return 1;
    }

    public int text(int t, int n) {
        if (!isText(t) || n > TEXT_MOST) {
            return BAD;
        }
        if (n < 0) {
            return found(SIZE);
        }
        textSizes[t] = n;
        Arrays.fill(texts[t], (byte) ' ');
        return n;
    }

    public int put(int t, int i, int v) {
        if (!isText(t)) {
            return BAD;
        }
        if (textSizes[t] == MISSING) {
            return found(NOTHING);
        }
        if (i < 0 || i >= textSizes[t]) {
            return found(BEYOND);
        }
        int was = texts[t][i];
        texts[t][i] = (byte) v;
        return was + 1000;
    }

    public int flight(int cell, int r) {
        if (!Chart.isCell(cell) || !isRow(r)) {
            return BAD;
        }
        if (rowSizes[r] == MISSING) {
            return found(NOTHING);
        }
        if (rowSizes[r] > Plane.MOST_HOURS) {
            return found(SIZE);
        }
        for (int h = 0; h < rowSizes[r]; h++) {
            if (!Chart.isSide(rows[r][h])) {
                return found(UNLIKE);
            }
        }
        plane.begin(cell, rows[r], rowSizes[r]);
        return plane.hours;
    }

    public int ends(int r) {
        if (!isRow(r)) {
            return BAD;
        }
        if (rowSizes[r] == MISSING) {
            return found(NOTHING);
        }
        if (rowSizes[r] != plane.hours + 1) {
            return found(SIZE);
        }
        int sum = 0;
        for (int h = 0; h <= plane.hours; h++) {
            if (!isWithin(rows[r][h], Plane.MOST_END)) {
                return found(UNLIKE);
            }
            sum += rows[r][h];
        }
        if (sum == 0) {
            return found(NOUGHT);
        }
        System.arraycopy(rows[r], 0, plane.ends, 0, plane.hours + 1);
        return sum;
    }

    public int course(int h, int side) {
        if (h < 0 || h >= plane.hours || !Chart.isSide(side)) {
            return BAD;
        }
        int was = plane.courses[h];
        plane.courses[h] = side;
        return was;
    }

    public int plan(int what) {
        if (!isWithin(what, PLANS - 1)) {
            return BAD;
        }
        lastAsked = plane.number(what);
        return 1;
    }

    public int fault(int t) {
        if (!isText(t)) {
            return BAD;
        }
        if (textSizes[t] == MISSING) {
            return found(NOTHING);
        }
        return reader.read(texts[t], textSizes[t]);
    }

    public int story(int k, int t) {
        if (k < 1 || k > STORIES || !isText(t)) {
            return BAD;
        }
        if (textSizes[t] == MISSING) {
            return found(NOTHING);
        }
        if (reader.read(texts[t], textSizes[t]) != NONE) {
            return STATE;
        }
        System.arraycopy(reader.laid, 0, stories[k - 1], 0, Chart.CELLS);
        storyThere[k - 1] = true;
        return reader.items;
    }

    public int lies(int k, int cell) {
        if (k < 1 || k > STORIES || !Chart.isCell(cell)) {
            return BAD;
        }
        if (isMissing(k)) {
            return found(NOTHING);
        }
        return stories[k - 1][cell];
    }

    public int far(int cell, int other) {
        if (!Chart.isCell(cell) || !Chart.isCell(other)) {
            return BAD;
        }
        lastAsked = Chart.sideOn(cell, other);
        return Chart.apart(cell, other);
    }

    // ---- 2 signs

    public int sign(int kind, int a, int b, int c) {
        if (!Sign.fits(kind, a, b, c)) {
            return BAD;
        }
        if (book.many >= Book.MOST) {
            return FULL;
        }
        return book.add(kind, a, b, c);
    }

    public int signs(int r) {
        if (!isRow(r)) {
            return BAD;
        }
        int size = rowSizes[r];
        if (size == MISSING) {
            return found(NOTHING);
        }
        if (size % 4 != 0) {
            return found(SIZE);
        }
        if (book.many + size / 4 > Book.MOST) {
            return FULL;
        }
        int[] row = rows[r];
        for (int i = 0; i + 3 < size; i += 4) {
            if (!Sign.fits(row[i], row[i + 1], row[i + 2], row[i + 3])) {
                return found(UNLIKE);
            }
        }
        for (int i = 0; i + 3 < size; i += 4) {
            book.add(row[i], row[i + 1], row[i + 2], row[i + 3]);
        }
        return size / 4;
    }

    public int undo(int e, int is) {
        if (!book.has(e) || !isWithin(is, 1)) {
            return BAD;
        }
        int was = book.signs[e].undone ? 1 : 0;
        book.signs[e].undone = is == 1;
        return was;
    }

    public int told(int e, int what) {
        if (!book.has(e) || !isWithin(what, 4)) {
            return BAD;
        }
        lastAsked = book.signs[e].number(what);
        return 1;
    }

    public int mark(int e, int kind) {
        if (!book.has(e) || kind < 1 || kind > Sign.FOUND) {
            return BAD;
        }
        if (!book.signs[e].is(kind)) {
            return found(UNLIKE);
        }
        return book.signs[e].tells(kind);
    }

    public int weighs(int e, int cell) {
        if (!book.has(e)) {
            return BAD;
        }
        Sign sign = book.signs[e];
        boolean isPlace = sign.kind == Sign.BURNT ? isWithin(cell, Plane.MOST_HOURS) : Chart.isCell(cell);
        return isPlace ? sign.weight(cell) : BAD;
    }

    public int near(int loud) {
        if (!isWithin(loud, Sign.MOST_LOUD)) {
            return BAD;
        }
        lastAsked = Sign.farthestHeard(loud);
        return Sign.nearestHeard(loud);
    }

    // ---- 3 odds

    public int where(int k, int cell) {
        if (!isStory(k) || !Chart.isCell(cell)) {
            return BAD;
        }
        int refusal = weighed(k);
        if (refusal != 0) {
            return refusal;
        }
        fraction(odds.weight[cell], odds.all);
        return 1;
    }

    public int most(int k) {
        if (!isStory(k)) {
            return BAD;
        }
        int refusal = weighed(k);
        if (refusal != 0) {
            return refusal;
        }
        int cell = odds.greatest();
        fraction(odds.weight[cell], odds.all);
        return cell;
    }

    public int sure(int k, int a, int b) {
        if (!isStory(k) || a < 1 || b > 99 || a > b) {
            return BAD;
        }
        int refusal = weighed(k);
        if (refusal != 0) {
            return refusal;
        }
        int many = 0;
        int first = NONE;
        for (int cell = Chart.CELLS - 1; cell >= 0; cell--) {
            if (odds.weight[cell] * b >= odds.all * a) {
                many++;
                first = cell;
            }
        }
        lastAsked = first;
        return many;
    }

    public int hour(int h, int cell) {
        if (!isWithin(h, Plane.MOST_HOURS) || !Chart.isCell(cell)) {
            return BAD;
        }
        int refusal = weighed(0);
        if (refusal != 0) {
            return refusal;
        }
        fraction(odds.weighThrough(h, cell), odds.all);
        return 1;
    }

    public int ended(int h) {
        if (!isWithin(h, Plane.MOST_HOURS)) {
            return BAD;
        }
        int refusal = weighed(0);
        if (refusal != 0) {
            return refusal;
        }
        fraction(odds.byHour[h], odds.all);
        return 1;
    }

    public int falls(int k, int e, int cell) {
        if (!isStory(k) || !book.has(e) || !Chart.isCell(cell)) {
            return BAD;
        }
        int refusal = barred(k, MOST_SIGNS_FALLS);
        if (refusal != 0) {
            return refusal;
        }
        long allWith = odds.weigh(k, NONE);
        long with = odds.weight[cell];
        long allWithout = odds.weigh(k, e);
        long without = odds.weight[cell];
        if (allWith <= 0 || allWithout <= 0) {
            return found(NOUGHT);
        }
        fraction(with * allWithout - without * allWith, allWith * allWithout);
        return 1;
    }

    public int turns(int k) {
        if (!isStory(k)) {
            return BAD;
        }
        int refusal = barred(k, MOST_SIGNS);
        if (refusal != 0) {
            return refusal;
        }
        int most = odds.weigh(k, NONE) > 0 ? odds.greatest() : NONE;
        int bits = 0;
        for (int e = 0; e < book.many; e++) {
            if (book.signs[e].counts()) {
                int mostWithout = odds.weigh(k, e) > 0 ? odds.greatest() : NONE;
                bits |= mostWithout != most ? 1 << e : 0;
            }
        }
        return bits;
    }

    public int truly(int k, int e) {
        if (!isStory(k) || !book.has(e)) {
            return BAD;
        }
        if (isMissing(k)) {
            return found(NOTHING);
        }
        if (!book.signs[e].is(Sign.VOICE)) {
            return found(UNLIKE);
        }
        int refusal = weighed(k);
        if (refusal != 0) {
            return refusal;
        }
        long there = 0;
        for (int cell = 0; cell < Chart.CELLS; cell++) {
            if (book.signs[e].isFrom(cell)) {
                there += odds.weight[cell];
            }
        }
        fraction(there, odds.all);
        return 1;
    }

    public int cross(int n) {
        if (n < 1 || n > Book.MOST) {
            return BAD;
        }
        int many = 0;
        int greatest = 0;
        int first = book.anyTrueVoice() ? 0 : NONE;
        for (int cell = 0; cell < Chart.CELLS; cell++) {
            int voices = book.trueVoicesFrom(cell);
            if (voices >= n) {
                many++;
            }
            if (voices > greatest) {
                greatest = voices;
                first = cell;
            }
        }
        lastAsked = first;
        return many;
    }

    public int likelier(int k, int l) {
        if (!isStory(k) || !isStory(l)) {
            return BAD;
        }
        if (isMissing(k) || isMissing(l)) {
            return found(NOTHING);
        }
        if (book.busy() > MOST_SIGNS) {
            return SPENT;
        }
        // The 12 for each SIGN is the same for both STORIES, so it is left out of both.
        long bareK = odds.bare(k);
        long bareL = odds.bare(l);
        long allK = odds.weigh(k, NONE);
        long allL = odds.weigh(l, NONE);
        if (allL <= 0 || bareK <= 0 || bareL <= 0) {
            return found(NOUGHT);
        }
        long up = allK * bareL;
        long low = allL * bareK;
        fraction(up, low);
        return up > low ? 2 : up == low ? 1 : 0;
    }

    public int line(int k, int cell, int side) {
        if (!isStory(k) || !Chart.isCell(cell) || !Chart.isSide(side)) {
            return BAD;
        }
        int refusal = weighed(k);
        if (refusal != 0) {
            return refusal;
        }
        int across = Chart.turned(side, 4);
        long weight = odds.weight[cell] + odds.weightBehind(cell, side) + odds.weightBehind(cell, across);
        fraction(weight, odds.all);
        return 1 + Chart.manyBehind(cell, side) + Chart.manyBehind(cell, across);
    }

    // ---- 4 drags, courses, draws

    public int drag(int k, int from, int n, int r) {
        if (!isStory(k) || !Chart.isCell(from) || !isWithin(n, Ship.MOST_HOURS) || !isRow(r)) {
            return BAD;
        }
        int refusal = weighed(k);
        if (refusal != 0) {
            return refusal;
        }
        fraction(ship.search(odds.weight, odds.weight[odds.greatest()], from, n), odds.all);
        renew(r, n + 1);
        System.arraycopy(ship.bestWay, 0, rows[r], 0, n + 1);
        return ship.unlikeCells(n);
    }

    public int brought(int cell, int d) {
        if (!Chart.isCell(cell) || !isWithin(d, 5)) {
            return BAD;
        }
        if (plane.comesIn(cell, d, NONE, NONE)) {
            lastAsked = 0;
            return 0;
        }
        int one = plane.firstChange(cell, d);
        if (one != NONE) {
            lastAsked = one;
            return 1;
        }
        int two = plane.firstTwoChanges(cell, d);
        if (two != NONE) {
            lastAsked = two;
            return 2;
        }
        return NONE;
    }

    public int draw(int seed, int r) {
        if (seed < 1 || seed > 2147483646 || !isRow(r)) {
            return BAD;
        }
        renew(r, plane.hours + 1);
        long number = seed;
        int cell = plane.cell;
        rows[r][0] = cell;
        for (int h = 0; h < plane.hours; h++) {
            number = number * 48271 % 2147483647;
            int side = plane.courses[h];
            int way = (int) (number % 4);
            if (way == 2) {
                side = Chart.turned(side, -1);
            } else if (way == 3) {
                side = Chart.turned(side, 1);
            }
            cell = Chart.gone(cell, side);
            rows[r][h + 1] = cell;
        }
        return (int) number;
    }

    public int image(int r) {
        if (!isRow(r)) {
            return BAD;
        }
        renew(r, IMAGE);
        for (int what = 0; what < PLANS; what++) {
            rows[r][what] = plane.number(what);
        }
        rows[r][PLANS] = book.undoneBits();
        return IMAGE;
    }

    public int on(int r) {
        if (!isRow(r)) {
            return BAD;
        }
        if (rowSizes[r] == MISSING) {
            return found(NOTHING);
        }
        if (rowSizes[r] != IMAGE) {
            return found(SIZE);
        }
        int[] row = rows[r];
        if (!Plane.couldTell(row) || row[PLANS] < 0 || row[PLANS] >= 1 << book.many) {
            return found(UNLIKE);
        }
        plane.goOn(row);
        book.undoBits(row[PLANS]);
        return 1;
    }

    // ---- 5 what is told

    public int asked() {
        return lastAsked;
    }

    public long upper() {
        return lastUpper;
    }

    public long lower() {
        return lastLower;
    }

    public int count(int what) {
        switch (what) {
            case 0:
                return plane.hours;
            case 1:
                return storiesThere();
            case 2:
                return book.many;
            case 3:
                return book.voices();
            case 4:
                return Integer.bitCount(book.undoneBits());
            case 5:
                return howManyThere(rowSizes);
            case 6:
                return howManyThere(textSizes);
            default:
                return BAD;
        }
    }

    public int finding() {
        return lastFinding;
    }

    public int findings(int f) {
        if (f < NOTHING || f > SIZE) {
            return BAD;
        }
        return findingCounts[f];
    }

    public long digest() {
        long h = 17;
        for (int what = 0; what <= 6; what++) {
            h = 31 * h + count(what);
        }
        for (int what = 0; what < PLANS; what++) {
            h = 31 * h + plane.number(what);
        }
        for (int s = 0; s < STORIES; s++) {
            h = storyThere[s] ? digestInts(h, stories[s], Chart.CELLS) : 31 * h + MISSING;
        }
        for (int e = 0; e < book.many; e++) {
            for (int what = 0; what <= 4; what++) {
                h = 31 * h + book.signs[e].number(what);
            }
        }
        for (int r = 0; r < ROWS; r++) {
            h = digestInts(31 * h + rowSizes[r], rows[r], rowSizes[r]);
        }
        for (int t = 0; t < TEXTS; t++) {
            h = 31 * h + textSizes[t];
            for (int i = 0; i < textSizes[t]; i++) {
                h = 31 * h + texts[t][i];
            }
        }
        return h;
    }

    private static long digestInts(long start, int[] values, int many) {
        long h = start;
        for (int i = 0; i < many; i++) {
            h = 31 * h + values[i];
        }
        return h;
    }

    private static boolean isWithin(int v, int most) {
        return v >= 0 && v <= most;
    }

    private static boolean isRow(int r) {
        return r >= 0 && r < ROWS;
    }

    private static boolean isText(int t) {
        return t >= 0 && t < TEXTS;
    }

    private static boolean isStory(int k) {
        return k >= 0 && k <= STORIES;
    }

    private boolean isMissing(int k) {
        return k > 0 && k <= STORIES && !storyThere[k - 1];
    }

    /** Whether n places from i on are there; told so that i and n may be as great as they like. */
    private static boolean holds(int size, int i, int n) {
        return i >= 0 && i <= size && n <= size - i;
    }

    /** Why place i of a ROW is refused; 0 if it is not. */
    private int barredPlace(int r, int i) {
        if (!isRow(r)) {
            return BAD;
        }
        if (rowSizes[r] == MISSING) {
            return found(NOTHING);
        }
        return i < 0 || i >= rowSizes[r] ? found(BEYOND) : 0;
    }

    private void renew(int r, int n) {
        rowSizes[r] = n;
        Arrays.fill(rows[r], 0);
    }

    private int found(int f) {
        lastFinding = f;
        findingCounts[f]++;
        return FINDING;
    }

    /** Why odds by STORY k are refused ahead of weighing them: NOTHING, then SPENT; 0 if they are not. */
    private int barred(int k, int mostSigns) {
        if (isMissing(k)) {
            return found(NOTHING);
        }
        return book.busy() > mostSigns ? SPENT : 0;
    }

    /** Weighs STORY k by all SIGNS: 0, or why it is refused. */
    private int weighed(int k) {
        int refusal = barred(k, MOST_SIGNS);
        if (refusal != 0) {
            return refusal;
        }
        return odds.weigh(k, NONE) > 0 ? 0 : found(NOUGHT);
    }

    private void fraction(long up, long low) {
        long divisor = greatestDivisor(Math.abs(up), low);
        if (divisor > 0) {
            lastUpper = up / divisor;
            lastLower = low / divisor;
        }
    }

    private static long greatestDivisor(long a, long b) {
        long greater = a;
        long less = b;
        // Euclid's way ends within 92 steps for any two longs.
        for (int step = 0; step < 100 && less != 0; step++) {
            long rest = greater % less;
            greater = less;
            less = rest;
        }
        return greater;
    }

    private int storiesThere() {
        int many = 0;
        for (int s = 0; s < STORIES; s++) {
            many += storyThere[s] ? 1 : 0;
        }
        return many;
    }

    private static int howManyThere(int[] sizes) {
        int many = 0;
        for (int i = 0; i < sizes.length; i++) {
            many += sizes[i] != MISSING ? 1 : 0;
        }
        return many;
    }

    /** The map of CELLS: how far they are apart, and on which SIDE. */
    private static final class Chart {
        static final int WIDE = 12, HIGH = 10, CELLS = 120, SIDES = 8;
        static final int NORTH = 0, EAST = 2, SOUTH = 4, WEST = 6;
        private static final int[] STEP_X = {0, 1, 1, 1, 0, -1, -1, -1};
        private static final int[] STEP_Y = {-1, -1, 0, 1, 1, 1, 0, -1};

        static boolean isCell(int cell) {
            return cell >= 0 && cell < CELLS;
        }

        static boolean isSide(int side) {
            return side >= 0 && side < SIDES;
        }

        static int apart(int cell, int other) {
            int x = Math.abs(other % WIDE - cell % WIDE);
            int y = Math.abs(other / WIDE - cell / WIDE);
            return Math.max(x, y);
        }

        /** The SIDE of a CELL on which another one is. */
        static int sideOn(int cell, int other) {
            int x = other % WIDE - cell % WIDE;
            int y = other / WIDE - cell / WIDE;
            if (x == 0 && y == 0) {
                return NONE;
            }
            // Ways are held against one another by their squares, which have no sign.
            if (x * x >= 4 * y * y) {
                return x > 0 ? EAST : WEST;
            }
            if (y * y >= 4 * x * x) {
                return y > 0 ? SOUTH : NORTH;
            }
            if (x > 0) {
                return y > 0 ? EAST + 1 : EAST - 1;
            }
            return y > 0 ? WEST - 1 : WEST + 1;
        }

        static int turned(int side, int by) {
            return (side + by) & (SIDES - 1);
        }

        /** The next CELL on a SIDE; NONE out of the map. */
        static int beside(int cell, int side) {
            int x = cell % WIDE + STEP_X[side];
            int y = cell / WIDE + STEP_Y[side];
            return x < 0 || x >= WIDE || y < 0 || y >= HIGH ? NONE : y * WIDE + x;
        }

        /** Where it is after an hour towards a SIDE: out of the map it stays. */
        static int gone(int cell, int side) {
            int next = beside(cell, side);
            return next == NONE ? cell : next;
        }

        static int manyBehind(int cell, int side) {
            int many = 0;
            int next = beside(cell, side);
            for (int step = 0; step < WIDE && next != NONE; step++) {
                many++;
                next = beside(next, side);
            }
            return many;
        }
    }

    /** The FLIGHT as it was planned: where from, its COURSES, and how likely it ends when. */
    private static final class Plane {
        static final int MOST_HOURS = 6, MOST_END = 9;
        private static final int FIRST_COURSE = 2, FIRST_END = 8;

        int cell = 0;
        int hours = 0;
        final int[] courses = new int[MOST_HOURS];
        final int[] ends = new int[MOST_HOURS + 1];

        Plane() {
            ends[0] = 1;
        }

        void begin(int from, int[] row, int many) {
            cell = from;
            hours = many;
            System.arraycopy(row, 0, courses, 0, many);
            Arrays.fill(ends, 0);
            ends[many] = 1;
        }

        /** What plan() tells. */
        int number(int what) {
            if (what == 0) {
                return cell;
            }
            if (what == 1) {
                return hours;
            }
            if (what < FIRST_END) {
                int h = what - FIRST_COURSE;
                return h >= 0 && h < hours ? courses[h] : NONE;
            }
            int h = what - FIRST_END;
            return h <= hours ? ends[h] : NONE;
        }

        /** Whether the first 15 numbers of a row could be told by plan(). */
        static boolean couldTell(int[] row) {
            if (!Chart.isCell(row[0]) || !isWithin(row[1], MOST_HOURS)) {
                return false;
            }
            int hours = row[1];
            for (int h = 0; h < MOST_HOURS; h++) {
                int course = row[FIRST_COURSE + h];
                if (h < hours ? !Chart.isSide(course) : course != NONE) {
                    return false;
                }
            }
            int sum = 0;
            for (int h = 0; h <= MOST_HOURS; h++) {
                int end = row[FIRST_END + h];
                if (h <= hours ? !isWithin(end, MOST_END) : end != NONE) {
                    return false;
                }
                sum += h <= hours ? end : 0;
            }
            // ends() never lets all be 0, so plan() never tells that.
            return sum > 0;
        }

        void goOn(int[] row) {
            cell = row[0];
            hours = row[1];
            System.arraycopy(row, FIRST_COURSE, courses, 0, hours);
            System.arraycopy(row, FIRST_END, ends, 0, hours + 1);
        }

        /** Whether it comes near by its COURSES alone but for two CHANGES (8 times the hour and the SIDE, or NONE). */
        boolean comesIn(int goal, int near, int change, int later) {
            int here = cell;
            for (int h = 0; h < hours; h++) {
                if (Chart.apart(here, goal) <= near) {
                    return true;
                }
                int side = courses[h];
                if (change >= 0 && change / Chart.SIDES == h) {
                    side = change % Chart.SIDES;
                } else if (later >= 0 && later / Chart.SIDES == h) {
                    side = later % Chart.SIDES;
                }
                here = Chart.gone(here, side);
            }
            return Chart.apart(here, goal) <= near;
        }

        /** The first single CHANGE that brings it in, as brought() tells it; NONE if none does. */
        int firstChange(int goal, int near) {
            for (int change = 0; change < hours * Chart.SIDES; change++) {
                if (comesIn(goal, near, change, NONE)) {
                    return toldAs(change);
                }
            }
            return NONE;
        }

        /** The first two CHANGES that bring it in, as brought() tells them; NONE if none do. */
        int firstTwoChanges(int goal, int near) {
            int all = hours * Chart.SIDES;
            for (int change = 0; change < all; change++) {
                int nextHour = (change / Chart.SIDES + 1) * Chart.SIDES;
                for (int later = nextHour; later < all; later++) {
                    if (comesIn(goal, near, change, later)) {
                        return toldAs(change) + 100 + 100 * toldAs(later);
                    }
                }
            }
            return NONE;
        }

        private static int toldAs(int change) {
            return change / Chart.SIDES * 10 + change % Chart.SIDES;
        }
    }

    /** One SIGN, of any KIND. */
    private static final class Sign {
        static final int NOTE = 0, HEARD = 1, FIXED = 2, BURNT = 3, LOOKED = 4, VOICE = 5, MADE = 6, FOUND = 7;
        static final int ALL = 12, MOST_LOUD = 5;
        private static final int MOST_SLIP = 5, MOST_FOUND = 9, MOST_FAR = 11, LOUD_ENOUGH = 8;

        int kind = NOTE;
        int a = 0;
        int b = 0;
        int c = 0;
        boolean undone = false;

        static boolean fits(int kind, int a, int b, int c) {
            switch (kind) {
                case NOTE:
                    return true;
                case HEARD:
                    return isWithin(a, Plane.MOST_HOURS) && Chart.isCell(b) && isWithin(c, MOST_LOUD);
                case FIXED:
                    return isWithin(a, Plane.MOST_HOURS) && Chart.isCell(b) && isWithin(c, MOST_SLIP);
                case BURNT:
                    return isWithin(a, Plane.MOST_HOURS);
                case LOOKED:
                    return Chart.isCell(a) && Chart.isCell(b) && isWithin(c, ALL);
                case VOICE:
                case MADE:
                    return Chart.isCell(a) && Chart.isSide(b) && isWithin(c, ALL);
                case FOUND:
                    return Chart.isCell(a) && isWithin(b, MOST_FOUND) && isWithin(c, ALL);
                default:
                    return false;
            }
        }

        void become(int newKind, int newA, int newB, int newC) {
            boolean looksAtA = newKind != NOTE;
            boolean looksAtAll = looksAtA && newKind != BURNT;
            kind = newKind;
            a = looksAtA ? newA : 0;
            b = looksAtAll ? newB : 0;
            c = looksAtAll ? newC : 0;
            undone = false;
        }

        /** What told() tells. */
        int number(int what) {
            switch (what) {
                case 0:
                    return kind;
                case 1:
                    return a;
                case 2:
                    return b;
                case 3:
                    return c;
                default:
                    return undone ? 1 : 0;
            }
        }

        boolean is(int ofKind) {
            return kind == ofKind || kind == MADE && ofKind == VOICE;
        }

        boolean counts() {
            return !undone && kind != NOTE;
        }

        boolean isByHour() {
            return kind == HEARD || kind == FIXED;
        }

        boolean isTrueVoice() {
            return kind == VOICE && !undone;
        }

        /** Whether a CELL is where a VOICE says. */
        boolean isFrom(int cell) {
            return Chart.sideOn(a, cell) == b;
        }

        /** WEIGHS by a CELL; for BURNT by the hour of the end. */
        int weight(int place) {
            switch (kind) {
                case HEARD:
                    return heardWeight(c, Chart.apart(b, place));
                case FIXED:
                    return fixedWeight(c, Chart.apart(b, place));
                case BURNT:
                    return burntWeight(Math.abs(a - place));
                case LOOKED:
                    return saw(place) ? ALL - c : ALL;
                case VOICE:
                    return isFrom(place) ? ALL : ALL - c;
                case FOUND:
                    return Chart.apart(a, place) <= b ? ALL : ALL - c;
                default:
                    return ALL;
            }
        }

        private static int heardWeight(int loud, int apart) {
            switch (Math.abs(loud - Math.max(MOST_LOUD - apart, 0))) {
                case 0:
                    return ALL;
                case 1:
                    return 8;
                case 2:
                    return 4;
                case 3:
                    return 1;
                default:
                    return 0;
            }
        }

        private static int fixedWeight(int slip, int apart) {
            if (apart <= slip) {
                return ALL;
            }
            return apart <= 2 * slip + 1 ? 4 : 1;
        }

        static int burntWeight(int off) {
            switch (off) {
                case 0:
                    return ALL;
                case 1:
                    return 6;
                case 2:
                    return 2;
                default:
                    return 0;
            }
        }

        private boolean saw(int cell) {
            return isBetween(cell % Chart.WIDE, a % Chart.WIDE, b % Chart.WIDE)
                && isBetween(cell / Chart.WIDE, a / Chart.WIDE, b / Chart.WIDE);
        }

        private static boolean isBetween(int v, int one, int other) {
            return one <= other ? v >= one && v <= other : v >= other && v <= one;
        }

        static int nearestHeard(int loud) {
            for (int apart = 0; apart <= MOST_FAR; apart++) {
                if (heardWeight(loud, apart) >= LOUD_ENOUGH) {
                    return apart;
                }
            }
            return NONE;
        }

        static int farthestHeard(int loud) {
            for (int apart = MOST_FAR; apart >= 0; apart--) {
                if (heardWeight(loud, apart) >= LOUD_ENOUGH) {
                    return apart;
                }
            }
            return NONE;
        }

        /** What mark() tells of a SIGN that is of this KIND. */
        int tells(int ofKind) {
            switch (ofKind) {
                case HEARD:
                    return nearestHeard(c);
                case BURNT:
                    return a;
                case LOOKED:
                    return cellsSeen();
                case VOICE:
                    return b;
                case MADE:
                    return c;
                default:
                    return cellsOfFullWeight();
            }
        }

        private int cellsSeen() {
            int many = 0;
            for (int cell = 0; cell < Chart.CELLS; cell++) {
                many += saw(cell) ? 1 : 0;
            }
            return many;
        }

        private int cellsOfFullWeight() {
            int many = 0;
            for (int cell = 0; cell < Chart.CELLS; cell++) {
                many += weight(cell) == ALL ? 1 : 0;
            }
            return many;
        }
    }

    /** All SIGNS that there are; the objects are made once, ahead. */
    private static final class Book {
        static final int MOST = 12;

        final Sign[] signs = new Sign[MOST];
        int many = 0;

        Book() {
            for (int e = 0; e < MOST; e++) {
                signs[e] = new Sign();
            }
        }

        boolean has(int e) {
            return e >= 0 && e < many;
        }

        /** The new SIGN's number; only for a SIGN that fits, while there is place. */
        int add(int kind, int a, int b, int c) {
            if (many >= MOST) {
                return NONE;
            }
            signs[many].become(kind, a, b, c);
            many++;
            return many - 1;
        }

        int busy() {
            int busy = 0;
            for (int e = 0; e < many; e++) {
                busy += signs[e].counts() ? 1 : 0;
            }
            return busy;
        }

        int voices() {
            int voices = 0;
            for (int e = 0; e < many; e++) {
                voices += signs[e].is(Sign.VOICE) ? 1 : 0;
            }
            return voices;
        }

        boolean anyTrueVoice() {
            for (int e = 0; e < many; e++) {
                if (signs[e].isTrueVoice()) {
                    return true;
                }
            }
            return false;
        }

        int trueVoicesFrom(int cell) {
            int voices = 0;
            for (int e = 0; e < many; e++) {
                voices += signs[e].isTrueVoice() && signs[e].isFrom(cell) ? 1 : 0;
            }
            return voices;
        }

        int undoneBits() {
            int bits = 0;
            for (int e = 0; e < many; e++) {
                bits |= signs[e].undone ? 1 << e : 0;
            }
            return bits;
        }

        void undoBits(int bits) {
            for (int e = 0; e < many; e++) {
                signs[e].undone = (bits >> e & 1) == 1;
            }
        }
    }

    /** What can be weighed, and WEIGHTS of CELLS by it; the rows are used again by each weighing. */
    private static final class Odds {
        final Plane plane = new Plane();
        final Book book = new Book();
        final int[][] stories = new int[STORIES][Chart.CELLS];
        final long[] weight = new long[Chart.CELLS];
        final long[] byHour = new long[Plane.MOST_HOURS + 1];
        long all = 0;
        private long[] now = new long[Chart.CELLS];
        private long[] next = new long[Chart.CELLS];
        private final long[] atLast = new long[Chart.CELLS];

        /** WEIGHTS by STORY k without one SIGN (or NONE): weight[] by CELLS, byHour[] of a FLIGHT; and all, its answer. */
        long weigh(int k, int without) {
            all = k == 0 ? weighFlight(without, NONE, NONE) : weighText(stories[k - 1], without);
            return all;
        }

        /** WEIGHT of the ways that are in a CELL at an hour, up or ending. */
        long weighThrough(int h, int cell) {
            return weighFlight(NONE, h, cell);
        }

        /** All WEIGHT without any SIGN, and without its 12. */
        long bare(int k) {
            long sum = 0;
            if (k == 0) {
                for (int h = 0; h <= plane.hours; h++) {
                    sum += plane.ends[h];
                }
                return sum << 2 * plane.hours;
            }
            for (int cell = 0; cell < Chart.CELLS; cell++) {
                sum += stories[k - 1][cell];
            }
            return sum;
        }

        int greatest() {
            int best = 0;
            for (int cell = 1; cell < Chart.CELLS; cell++) {
                if (weight[cell] > weight[best]) {
                    best = cell;
                }
            }
            return best;
        }

        long weightBehind(int cell, int side) {
            long sum = 0;
            int behind = Chart.beside(cell, side);
            for (int step = 0; step < Chart.WIDE && behind != NONE; step++) {
                sum += weight[behind];
                behind = Chart.beside(behind, side);
            }
            return sum;
        }

        private boolean weighsIn(int e, int without) {
            return e != without && book.signs[e].counts();
        }

        private long weighText(int[] story, int without) {
            long sum = 0;
            for (int cell = 0; cell < Chart.CELLS; cell++) {
                long product = story[cell];
                for (int e = 0; e < book.many && product != 0; e++) {
                    if (weighsIn(e, without)) {
                        Sign sign = book.signs[e];
                        product *= sign.kind == Sign.BURNT ? Sign.ALL : sign.weight(cell);
                    }
                }
                weight[cell] = product;
                sum += product;
            }
            return sum;
        }

        /** Hour by hour; with atHour only ways that are in atCell then are counted. */
        private long weighFlight(int without, int atHour, int atCell) {
            Arrays.fill(weight, 0);
            Arrays.fill(byHour, 0);
            Arrays.fill(now, 0);
            now[plane.cell] = 1;
            weighAtLast(without);
            long sum = 0;
            for (int h = 0; h <= plane.hours; h++) {
                weighByHour(h, without);
                if (h == atHour) {
                    keepOnly(atCell);
                }
                if (h >= atHour) {
                    byHour[h] = land(h, without);
                    sum += byHour[h];
                }
                if (h < plane.hours) {
                    spread(plane.courses[h]);
                }
            }
            return sum;
        }

        private void weighByHour(int h, int without) {
            for (int e = 0; e < book.many; e++) {
                Sign sign = book.signs[e];
                if (weighsIn(e, without) && sign.isByHour() && sign.a == h) {
                    for (int cell = 0; cell < Chart.CELLS; cell++) {
                        if (now[cell] != 0) {
                            now[cell] *= sign.weight(cell);
                        }
                    }
                }
            }
        }

        private void keepOnly(int cell) {
            long kept = now[cell];
            Arrays.fill(now, 0);
            now[cell] = kept;
        }

        /** Adds the WEIGHT of all ways that end at an hour, and answers it. */
        private long land(int h, int without) {
            long byEnd = weightByEnd(h, without);
            long sum = 0;
            for (int cell = 0; cell < Chart.CELLS && byEnd != 0; cell++) {
                if (now[cell] != 0) {
                    long landed = now[cell] * byEnd * atLast[cell];
                    weight[cell] += landed;
                    sum += landed;
                }
            }
            return sum;
        }

        /** What is the same for all ways that end at an hour. */
        private long weightByEnd(int h, int without) {
            long product = (long) plane.ends[h] << 2 * (plane.hours - h);
            for (int e = 0; e < book.many; e++) {
                Sign sign = book.signs[e];
                if (weighsIn(e, without)) {
                    if (sign.kind == Sign.BURNT) {
                        product *= Sign.burntWeight(Math.abs(sign.a - h));
                    } else if (sign.isByHour() && sign.a > h) {
                        product *= Sign.ALL;
                    }
                }
            }
            return product;
        }

        /** What SIGNS weigh by the CELL where it is at last: the same at every hour of its end. */
        private void weighAtLast(int without) {
            Arrays.fill(atLast, 1);
            for (int e = 0; e < book.many; e++) {
                Sign sign = book.signs[e];
                if (weighsIn(e, without) && sign.kind != Sign.BURNT && !sign.isByHour()) {
                    for (int cell = 0; cell < Chart.CELLS; cell++) {
                        atLast[cell] *= sign.weight(cell);
                    }
                }
            }
        }

        private void spread(int course) {
            Arrays.fill(next, 0);
            for (int cell = 0; cell < Chart.CELLS; cell++) {
                if (now[cell] != 0) {
                    next[Chart.gone(cell, course)] += 2 * now[cell];
                    next[Chart.gone(cell, Chart.turned(course, -1))] += now[cell];
                    next[Chart.gone(cell, Chart.turned(course, 1))] += now[cell];
                }
            }
            long[] spare = now;
            now = next;
            next = spare;
        }
    }

    /** Reads a TEXT as a STORY. */
    private static final class Reader {
        private byte[] text = null;
        private int size = 0;
        private int place = 0;
        private int fault = NONE;
        final int[] laid = new int[Chart.CELLS];
        int items = 0;

        /** The FAULT, or NONE: then laid[] tells what CELLS weigh. */
        int read(byte[] newText, int newSize) {
            text = newText;
            size = newSize;
            place = 0;
            fault = NONE;
            items = 0;
            Arrays.fill(laid, 0);
            skipBlanks();
            // An item takes one place at least, so there are no more of them than places.
            for (int turn = 0; turn < size && place < size && fault == NONE; turn++) {
                readItem();
                items++;
                skipBlanks();
            }
            return fault;
        }

        private void skipBlanks() {
            while (place < size && text[place] == ' ') {
                place++;
            }
        }

        private void readItem() {
            if (text[place] == 'a') {
                place++;
                take('=');
                int weight = takeNumber(2);
                if (fault == NONE) {
                    Arrays.fill(laid, weight);
                }
            } else if (text[place] == 'r') {
                place++;
                readRound();
            } else if (text[place] == 'l') {
                place++;
                readLine();
            } else {
                fault = place;
            }
        }

        private void readRound() {
            int middle = takeCell();
            take(':');
            int most = takeFigure(9);
            take('=');
            int weight = takeNumber(2);
            for (int cell = 0; cell < Chart.CELLS && fault == NONE; cell++) {
                if (Chart.apart(middle, cell) <= most) {
                    laid[cell] = weight;
                }
            }
        }

        private void readLine() {
            int cell = takeCell();
            take(':');
            int side = takeFigure(Chart.SIDES - 1);
            take('=');
            int weight = takeNumber(2);
            for (int step = 0; step < Chart.WIDE && cell != NONE && fault == NONE; step++) {
                laid[cell] = weight;
                cell = Chart.beside(cell, side);
            }
        }

        private int takeCell() {
            int cell = takeNumber(3);
            if (fault == NONE && !Chart.isCell(cell)) {
                fault = place;
            }
            return cell;
        }

        private void take(int sign) {
            if (fault == NONE && place < size && text[place] == sign) {
                place++;
            } else if (fault == NONE) {
                fault = place;
            }
        }

        private int takeFigure(int most) {
            if (fault == NONE && isFigure(most)) {
                place++;
                return text[place - 1] - '0';
            }
            if (fault == NONE) {
                fault = place;
            }
            return NONE;
        }

        private int takeNumber(int mostFigures) {
            int number = takeFigure(9);
            for (int figures = 1; figures < mostFigures && fault == NONE && isFigure(9); figures++) {
                number = number * 10 + takeFigure(9);
            }
            return number;
        }

        private boolean isFigure(int most) {
            return place < size && text[place] >= '0' && text[place] <= '0' + most;
        }
    }

    /** A ship that drags: its best way through WEIGHTS. */
    private static final class Ship {
        static final int MOST_HOURS = 4;

        final int[] bestWay = new int[MOST_HOURS + 1];
        private final int[] way = new int[MOST_HOURS + 1];
        private long best = -1;
        private int hours = 0;

        /** The most WEIGHT of unlike CELLS; bestWay[] tells the first way to it. */
        long search(long[] weight, long greatest, int from, int manyHours) {
            best = -1;
            hours = manyHours;
            way[0] = from;
            sail(this, weight, greatest, 0, weight[from]);
            return best;
        }

        /** CELLS are tried from the least on, and a way as good as an earlier one is let go: so the first one stays. */
        private static void sail(Ship ship, long[] weight, long greatest, int h, long sum) {
            int hoursToCome = ship.hours - h;
            // No way from here can do better: spares most of the 6561 ways.
            if (sum + hoursToCome * greatest <= ship.best) {
                return;
            }
            if (hoursToCome <= 0 || h >= MOST_HOURS) {
                ship.best = sum;
                System.arraycopy(ship.way, 0, ship.bestWay, 0, h + 1);
                return;
            }
            int x = ship.way[h] % Chart.WIDE;
            int y = ship.way[h] / Chart.WIDE;
            for (int toY = Math.max(y - 1, 0); toY <= y + 1 && toY < Chart.HIGH; toY++) {
                for (int toX = Math.max(x - 1, 0); toX <= x + 1 && toX < Chart.WIDE; toX++) {
                    int to = toY * Chart.WIDE + toX;
                    ship.way[h + 1] = to;
                    sail(ship, weight, greatest, h + 1, wasIn(ship.way, to, h) ? sum : sum + weight[to]);
                }
            }
        }

        private static boolean wasIn(int[] cells, int cell, int lastHour) {
            for (int h = 0; h <= lastHour; h++) {
                if (cells[h] == cell) {
                    return true;
                }
            }
            return false;
        }

        int unlikeCells(int manyHours) {
            int many = 0;
            for (int h = 0; h <= manyHours; h++) {
                many += wasIn(bestWay, bestWay[h], h - 1) ? 0 : 1;
            }
            return many;
        }
    }
}
