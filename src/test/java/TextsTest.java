/** Promises 13 to 17: append, clearBuffer, firstError, putAll, undo. */
public final class TextsTest {
    public static void main(String[] args) {
        append();
        clearBuffer();
        firstErrors();
        everyPlace();
        putAll();
        putAllRefuses();
        putAllFills();
        undo();
        undoKeepsTheBuffer();
        Check.end("TextsTest");
    }

    private static void append() {
        SkipRows x = new SkipRows();
        int[] bad = {32, 127, 0, -1, 128, Integer.MIN_VALUE, Integer.MAX_VALUE};
        for (int code : bad) {
            Check.badArgument(x, "append(" + code + ")", () -> x.append(code));
        }
        Check.due("append(33)", x.append(33), 1);
        Check.due("append(126)", x.append(126), 2);
        for (int length = 3; length <= 60; length++) {
            Check.due("append('k')", x.append('k'), length);
        }
        Check.badState(x, "append('k') as the 61st", () -> x.append('k'));
        Check.badArgument(x, "append(32) as the 61st", () -> x.append(32));
        Check.due("append saves no state", x.count(12), 0);
        Check.due("append puts no row", x.count(1), 0);
    }

    private static void clearBuffer() {
        SkipRows x = new SkipRows();
        long empty = x.digest();
        Check.type(x, "k1u2");
        Check.due("clearBuffer()", x.clearBuffer(), 4);
        Check.due("clearBuffer() again", x.clearBuffer(), 0);
        Check.due("clearBuffer() saves no state", x.count(12), 0);
        Check.due("digest() after clearBuffer()", x.digest(), empty);
        Check.due("append after clearBuffer()", x.append('k'), 1);
    }

    private static void firstErrors() {
        String[] texts = {"", "k", "k0", "k7u", "k7u9", "k7u0*", "k0*2", "k0*9;", "k0;k1;k2u3*4;k"};
        for (String text : texts) {
            error(text, text.length());
        }
        error("x", 0);
        error("K0", 0);
        error("0", 0);
        error(";", 0);
        error("k8", 1);
        error("k/", 1);
        error("kk", 1);
        error("k00", 2);
        error("k0k1", 2);
        error("k0u:", 3);
        error("k0uu", 3);
        error("k0u/", 3);
        error("k0u10", 4);
        error("k0u1u1", 4);
        error("k0*1", 3);
        error("k0*0", 3);
        error("k0*:", 3);
        error("k0*10", 3);
        error("k0*2u3", 4);
        error("k0*2*2", 4);
        error("k0*22", 4);
        error("k0;;", 3);
        error("k0;u", 3);
        error("k0,k1", 2);
        error("k0u1*2;k9xx", 8);
    }

    private static void error(String text, int want) {
        SkipRows x = new SkipRows();
        Check.type(x, text);
        Check.due("firstError() of " + text, x.firstError(), want);
        Check.due("firstError() keeps the buffer " + text, x.clearBuffer(), text.length());
    }

    /** Every character at every place of the text's form, against the form told by hand. */
    private static void everyPlace() {
        String[] before = {"", "k", "k3", "k3u", "k3u4", "k3*", "k3*5", "k3u4*", "k3u4*5", "k3;", "k3*5;"};
        String[] right = {"k", "01234567", "u*;", "0123456789", "*;", "23456789", ";", "23456789", ";", "k", "k"};
        for (int place = 0; place < before.length; place++) {
            for (int code = 33; code <= 126; code++) {
                int length = before[place].length();
                boolean fits = right[place].indexOf(code) >= 0;
                error(before[place] + (char) code, fits ? length + 1 : length);
            }
        }
    }

    private static void putAll() {
        SkipRows x = new SkipRows();
        x.put(5, 5);
        x.pass(2);
        Check.type(x, "k1u2*3;k0;k7*2;k6u9");
        Check.due("putAll()", x.putAll(), 8);
        int[] keys = {5, 1, 1, 1, 0, 7, 7, 6};
        int[] urgencies = {5, 2, 2, 2, 0, 0, 0, 9};
        for (int row = 0; row < 8; row++) {
            Check.due("the key of the row " + row, x.row(row, 0), keys[row]);
            Check.due("the urgency of the row " + row, x.row(row, 1), urgencies[row]);
            Check.due("the mark of the row " + row, x.row(row, 2), row);
            Check.due("the state of the row " + row, x.row(row, 3), 0);
            Check.due("how long ago it was put", x.row(row, 10), row == 0 ? 2 : 0);
        }
        Check.due("rows that were put so far", x.count(6), 8);
        Check.due("saved states", x.count(12), 3);
        Check.due("the buffer is cleared", x.clearBuffer(), 0);
        Check.due("undo() of all rows as one call", x.undo(), 2);
        Check.due("rows then", x.count(1), 1);
        Check.due("rows that were put then", x.count(6), 1);
        Check.due("the buffer is empty still", x.clearBuffer(), 0);
        Check.type(x, "k2");
        Check.due("putAll() of one row", x.putAll(), 2);
        Check.due("no urgency is the urgency 0", x.row(1, 1), 0);
    }

    private static void putAllRefuses() {
        String[] texts = {"", "k", "k1u", "k1*", "k1;", "k1u2*", "k1u2;", "k1*2;", "x", "k1;k8", "k1*1", "k1k", "k0u1u"};
        for (String text : texts) {
            SkipRows x = new SkipRows();
            x.put(1, 1);
            Check.type(x, text);
            Check.badArgument(x, "putAll() of " + text, () -> x.putAll());
            Check.due("the buffer stays", x.clearBuffer(), text.length());
        }
    }

    private static void putAllFills() {
        SkipRows x = new SkipRows();
        Check.type(x, "k0*9;k0*9;k0*7");
        Check.badState(x, "putAll() of 25 rows", () -> x.putAll());
        Check.due("the buffer stays", x.clearBuffer(), 14);
        Check.type(x, "k0*9;k0*9;k0*6");
        Check.due("putAll() of 24 rows", x.putAll(), 24);
        Check.type(x, "k0");
        Check.badState(x, "putAll() into a full table", () -> x.putAll());
        x.append(';');
        Check.badArgument(x, "putAll() of no text into a full table", () -> x.putAll());
        SkipRows most = new SkipRows();
        Check.type(most, "k0*9;k1*9;k2*9;k3*9;k4*9;k5*9;k6*9;k7*9;k0*9;k1*9;k2*9;k3*9");
        Check.due("firstError() of 108 rows", most.firstError(), 59);
        Check.badState(most, "putAll() of 108 rows", () -> most.putAll());
        SkipRows plain = new SkipRows();
        Check.type(plain, "k0;k1;k2;k3;k4;k5;k6;k7;k0;k1;k2;k3;k4;k5;k6;k7;k0;k1;k2;k3");
        Check.due("putAll() of 20 names", plain.putAll(), 20);
        Check.due("the key of the last", plain.row(19, 0), 3);
        SkipRows full = new SkipRows();
        Check.type(full, "k0;k1;k2;k3;k4;k5;k6;k7;k0;k1;k2;k3;k4;k5;k6;k7;k0;k1;k2;k3;");
        Check.due("firstError() of 60 characters", full.firstError(), 60);
        Check.badArgument(full, "putAll() of 60 characters that end with ;", () -> full.putAll());
    }

    private static void undo() {
        SkipRows x = new SkipRows();
        long[] before = new long[9];
        for (int i = 0; i < 9; i++) {
            before[i] = Check.stateOf(x);
            x.put(i % 8, i);
            Check.due("saved states", x.count(12), Math.min(i + 1, 6));
        }
        for (int left = 5; left >= 0; left--) {
            Check.due("undo()", x.undo(), left);
            Check.due("the state then", Check.stateOf(x), before[left + 3]);
        }
        Check.badState(x, "undo() of nothing", () -> x.undo());
        Check.due("rows then", x.count(1), 3);
        x.put(0, 0);
        Check.due("undo() of what came behind", x.undo(), 0);
    }

    private static void undoKeepsTheBuffer() {
        SkipRows x = new SkipRows();
        x.put(0, 0);
        Check.type(x, "k1");
        Check.due("undo()", x.undo(), 0);
        Check.due("the buffer stays", x.append('u'), 3);
        x.put(2, 2);
        x.clearBuffer();
        x.undo();
        Check.due("the cleared buffer stays", x.clearBuffer(), 0);
    }
}
