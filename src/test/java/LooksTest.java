/** Promises 18 to 22: row, reader, group, count, setting. */
public final class LooksTest {
    public static void main(String[] args) {
        rowPlaces();
        rowBlocked();
        rowRefuses();
        reader();
        readerRefuses();
        group();
        groupRefuses();
        count();
        countRefuses();
        setting();
        Check.end("LooksTest");
    }

    private static void rowPlaces() {
        SkipRows x = new SkipRows();
        int[] urgencies = {3, 9, 3, 0, 9, 5};
        for (int urgency : urgencies) {
            x.put(0, urgency);
        }
        int[] places = {3, 0, 4, 5, 1, 2};
        for (int row = 0; row < 6; row++) {
            Check.due("the place of the row " + row, x.row(row, 9), places[row]);
        }
        x.take(0, 2);
        Check.due("a held row has its place", x.row(4, 9), 1);
        x.done(0, 1);
        Check.due("a done row has none", x.row(1, 9), -1);
        Check.due("those behind move up", x.row(3, 9), 4);
        x.set(1, 1);
        x.pass(5);
        Check.due("a dead row has none", x.row(4, 9), -1);
        Check.due("those behind move up", x.row(3, 9), 3);
    }

    private static void rowBlocked() {
        SkipRows x = new SkipRows();
        x.put(1, 9);
        x.put(2, 0);
        x.put(1, 0);
        Check.due("no row is blocked at first", x.row(2, 8), 0);
        x.set(2, 1);
        Check.due("a row of the same key behind is blocked", x.row(2, 8), 1);
        Check.due("one of another key is not", x.row(1, 8), 0);
        Check.due("the first one is not", x.row(0, 8), 0);
        x.set(2, 0);
        x.take(0, 24);
        x.set(2, 1);
        Check.due("a held row is blocked, too", x.row(2, 8), 1);
        x.done(0, 2);
        Check.due("a done row is not", x.row(2, 8), 0);
    }

    private static void rowRefuses() {
        SkipRows x = new SkipRows();
        x.put(0, 0);
        int[] bad = {-1, 1, 24, Integer.MIN_VALUE, Integer.MAX_VALUE};
        for (int row : bad) {
            Check.outOfBounds(x, "row(" + row + ", 0)", () -> x.row(row, 0));
            Check.outOfBounds(x, "row(" + row + ", 11)", () -> x.row(row, 11));
        }
        int[] badWhat = {-1, 11, Integer.MIN_VALUE, Integer.MAX_VALUE};
        for (int what : badWhat) {
            Check.badArgument(x, "row(0, " + what + ")", () -> x.row(0, what));
        }
    }

    private static void reader() {
        SkipRows x = new SkipRows();
        x.put(0, 1);
        x.put(1, 9);
        x.put(2, 5);
        Check.due("the row that it would take next", x.reader(2, 6), 1);
        x.takes(2, 5);
        Check.due("the row that it would take next of its keys", x.reader(2, 6), 2);
        x.take(2, 1);
        Check.due("then", x.reader(2, 6), 0);
        x.pass(2);
        x.take(2, 1);
        Check.due("and there is none then", x.reader(2, 6), -1);
        Check.due("rows that it holds", x.reader(2, 1), 2);
        Check.due("when the first hold lapses", x.reader(2, 5), 5);
        x.set(0, 1);
        x.giveBack(2, 0);
        x.take(2, 1);
        Check.due("when the first hold lapses, of another order", x.reader(2, 5), 3);
        x.done(2, 2);
        Check.due("rows that it did", x.reader(2, 2), 1);
        Check.due("rows that it gave back", x.reader(2, 3), 1);
        x.pass(1);
        Check.due("holds that ended by time", x.reader(2, 4), 1);
        Check.due("no hold lapses", x.reader(2, 5), -1);
        x.set(3, 1);
        x.take(0, 1);
        Check.due("it cannot hold more", x.reader(0, 6), -1);
        Check.due("another can", x.reader(3, 6), 0);
        int skips = x.count(9);
        x.reader(3, 6);
        Check.due("a look skips nothing", x.count(9), skips);
        for (int what = 1; what < 5; what++) {
            Check.due("reader(1, " + what + ") of one that did nothing", x.reader(1, what), 0);
        }
    }

    private static void readerRefuses() {
        SkipRows x = new SkipRows();
        int[] bad = {-1, 4, Integer.MIN_VALUE, Integer.MAX_VALUE};
        for (int reader : bad) {
            Check.outOfBounds(x, "reader(" + reader + ", 0)", () -> x.reader(reader, 0));
            Check.outOfBounds(x, "reader(" + reader + ", 7)", () -> x.reader(reader, 7));
        }
        int[] badWhat = {-1, 7, Integer.MIN_VALUE, Integer.MAX_VALUE};
        for (int what : badWhat) {
            Check.badArgument(x, "reader(0, " + what + ")", () -> x.reader(0, what));
        }
    }

    private static void group() {
        SkipRows x = mixed();
        int[] of5 = {3, 1, 1, 0};
        int[] of9 = {0, 1, 0, 1};
        int[] ofAll = {3, 2, 1, 1};
        int[] ofKey2 = {1, 0, 0, 0};
        for (int what = 0; what < 4; what++) {
            Check.due("group(3, 5, " + what + ")", x.group(3, 5, what), of5[what]);
            Check.due("group(3, 9, " + what + ")", x.group(3, 9, what), of9[what]);
            Check.due("group(3, NONE, " + what + ")", x.group(3, SkipRows.NONE, what), ofAll[what]);
            Check.due("group(2, 5, " + what + ")", x.group(2, 5, what), ofKey2[what]);
            Check.due("group(2, NONE, " + what + ")", x.group(2, SkipRows.NONE, what), ofKey2[what]);
            Check.due("group(3, 0, " + what + ")", x.group(3, 0, what), 0);
            Check.due("group(0, NONE, " + what + ")", x.group(0, SkipRows.NONE, what), 0);
        }
        x.sweep();
        Check.due("done rows of 3 after sweep()", x.group(3, SkipRows.NONE, 2), 0);
        x.put(7, 0);
        x.put(0, 9);
        Check.due("group(7, 0, 0)", x.group(7, 0, 0), 1);
        Check.due("group(0, 9, 0)", x.group(0, 9, 0), 1);
    }

    private static void groupRefuses() {
        SkipRows x = mixed();
        int[] badKeys = {-1, 8, Integer.MIN_VALUE, Integer.MAX_VALUE};
        for (int key : badKeys) {
            Check.badArgument(x, "group(" + key + ", 0, 0)", () -> x.group(key, 0, 0));
        }
        int[] badUrgencies = {-2, 10, Integer.MIN_VALUE, Integer.MAX_VALUE};
        for (int urgency : badUrgencies) {
            Check.badArgument(x, "group(0, " + urgency + ", 0)", () -> x.group(0, urgency, 0));
        }
        int[] badWhat = {-1, 4, Integer.MIN_VALUE, Integer.MAX_VALUE};
        for (int what : badWhat) {
            Check.badArgument(x, "group(0, 0, " + what + ")", () -> x.group(0, 0, what));
            Check.badArgument(x, "group(0, NONE, " + what + ")", () -> x.group(0, SkipRows.NONE, what));
        }
    }

    private static void count() {
        SkipRows x = mixed();
        counts(x, new int[] {5, 8, 4, 2, 1, 1, 8, 1, 0, 0, 2, 2, 6});
        x.set(2, 1);
        counts(x, new int[] {5, 8, 4, 2, 1, 1, 8, 1, 3, 0, 2, 2, 6});
        x.take(1, 24);
        counts(x, new int[] {5, 8, 3, 3, 1, 1, 8, 1, 3, 5, 1, 2, 6});
        x.sweep();
        counts(x, new int[] {5, 7, 3, 3, 0, 1, 8, 1, 3, 5, 1, 1, 6});
        x.undo();
        counts(x, new int[] {5, 8, 3, 3, 1, 1, 8, 1, 3, 5, 1, 2, 5});
        SkipRows pairs = new SkipRows();
        Check.type(pairs, "k0u1;k1u0;k0u1;k1u1;k0u0;k1u0*3");
        pairs.putAll();
        Check.due("unlike pairs", pairs.count(10), 4);
        pairs.take(0, 1);
        Check.due("unlike pairs while one of two rows of a pair is held", pairs.count(10), 4);
        pairs.take(0, 1);
        Check.due("unlike pairs while both are held", pairs.count(10), 3);
    }

    private static void counts(SkipRows x, int[] want) {
        for (int what = 0; what < 13; what++) {
            Check.due("count(" + what + ")", x.count(what), want[what]);
        }
    }

    private static void countRefuses() {
        SkipRows x = mixed();
        int[] bad = {-1, 13, Integer.MIN_VALUE, Integer.MAX_VALUE};
        for (int what : bad) {
            Check.badArgument(x, "count(" + what + ")", () -> x.count(what));
        }
    }

    private static void setting() {
        SkipRows x = new SkipRows();
        for (int setting = 0; setting < 4; setting++) {
            x.set(setting, 1);
            Check.due("setting(" + setting + ")", x.setting(setting), 1);
        }
        x.set(3, 17);
        int[] values = {1, 1, 1, 17};
        for (int setting = 0; setting < 4; setting++) {
            Check.due("setting(" + setting + ") then", x.setting(setting), values[setting]);
        }
        x.undo();
        Check.due("setting(3) after undo()", x.setting(3), 1);
        int[] bad = {-1, 4, Integer.MIN_VALUE, Integer.MAX_VALUE};
        for (int setting : bad) {
            Check.outOfBounds(x, "setting(" + setting + ")", () -> x.setting(setting));
        }
    }

    /** Of the rows 0 to 4, 3 and 5: 0 is held, 1 done; of 5 and 6, 3 and 9: 5 is dead, 6 held; 7 of 2 and 5 waits. */
    private static SkipRows mixed() {
        SkipRows x = new SkipRows();
        Check.type(x, "k3u5*5;k3u9*2;k2u5");
        x.putAll();
        x.set(1, 1);
        x.take(0, 1);
        x.pass(5);
        x.take(0, 3);
        x.done(0, 1);
        return x;
    }
}
