/** Makes rows, texts, flights and stories by calls. */
final class Make {
    static final int NOTHING = 1, BEYOND = 2, UNLIKE = 3, NOUGHT = 4, SIZE = 5;

    private Make() {
    }

    static void row(TwoFliers x, int r, int... values) {
        x.row(r, values.length);
        for (int i = 0; i < values.length; i++) {
            x.lay(r, i, values[i]);
        }
    }

    static void text(TwoFliers x, int t, String s) {
        x.text(t, s.length());
        for (int i = 0; i < s.length(); i++) {
            x.put(t, i, s.charAt(i));
        }
    }

    static int flight(TwoFliers x, int cell, int... courses) {
        row(x, 0, courses);
        return x.flight(cell, 0);
    }

    static int ends(TwoFliers x, int... ends) {
        row(x, 0, ends);
        return x.ends(0);
    }

    static int story(TwoFliers x, int k, String s) {
        text(x, 0, s);
        return x.story(k, 0);
    }
}
