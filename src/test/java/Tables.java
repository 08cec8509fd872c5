/** Tables that many tests begin with, made by calls of the face alone. */
final class Tables {
    /** As long as the buffer, complete rows as a text, 19 rows. */
    static final String TEXT_OF_60 = "k0u0;k7u9;k0;k1;k2;k3;k4;k5;k6;k7;k0;k1;k2;k3;k4;k5;k6;k7;k0";

    private Tables() {
    }

    /** The rows of the text, put as one call; the buffer is empty. */
    static SkipRows of(String text) {
        SkipRows x = new SkipRows();
        put(x, text);
        return x;
    }

    static void put(SkipRows x, String text) {
        Check.type(x, text);
        x.putAll();
    }

    /** So many rows of the key 0 and the urgency 0, each put by a call of its own. */
    static SkipRows filled(int rows) {
        SkipRows x = new SkipRows();
        for (int row = 0; row < rows; row++) {
            x.put(0, 0);
        }
        return x;
    }

    static SkipRows ofEachState() {
        SkipRows x = new SkipRows();
        putOneOfEachState(x);
        return x;
    }

    /** At the time 5, of the key 0: the row 0 waits, 1 is held by the reader 1, 2 is done, 3 is dead. */
    static void putOneOfEachState(SkipRows x) {
        put(x, "k0u0;k0u7;k0u8;k0u9");
        x.set(1, 1);
        x.take(0, 1);
        x.pass(5);
        x.take(1, 2);
        x.done(1, 2);
    }

    static void passAll(SkipRows x, int units) {
        int left = units;
        while (left > 0) {
            int step = Math.min(left, 99);
            x.pass(step);
            left -= step;
        }
    }

    /** One property of all rows, as a text. */
    static String each(SkipRows x, int what) {
        StringBuilder all = new StringBuilder();
        for (int row = 0; row < x.count(1); row++) {
            all.append(row == 0 ? "" : " ").append(x.row(row, what));
        }
        return all.toString();
    }
}
