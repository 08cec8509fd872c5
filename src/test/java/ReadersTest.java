/** Promises 7 to 12: takes, take, done, giveBack, renew, pass. */
public final class ReadersTest {
    public static void main(String[] args) {
        takes();
        takeByOrder();
        takeSkips();
        takeInOrderOfKeys();
        takeLimits();
        takeRefuses();
        done();
        giveBack();
        renew();
        pass();
        passRefuses();
        tries();
        fullTable();
        Check.end("ReadersTest");
    }

    private static void takes() {
        SkipRows x = new SkipRows();
        Check.due("takes(3, 0)", x.takes(3, 0), 255);
        Check.due("takes(3, 129)", x.takes(3, 129), 0);
        Check.due("reader(3, 0)", x.reader(3, 0), 129);
        Check.due("reader(2, 0)", x.reader(2, 0), 255);
        for (int reader = 0; reader < 4; reader++) {
            int at = reader;
            Check.undoable(x, "takes(" + reader + ", 5)", () -> x.takes(at, 5));
        }
        for (int key = 0; key < 8; key++) {
            x.put(key, 0);
        }
        Check.due("take(3, 24)", x.take(3, 24), 2);
        Check.due("who holds a row of key 0", x.row(0, 4), 3);
        Check.due("who holds a row of key 7", x.row(7, 4), 3);
        x.takes(3, 0);
        Check.due("what it holds stays", x.reader(3, 1), 2);
        int[] bad = {-1, 4, Integer.MIN_VALUE, Integer.MAX_VALUE};
        for (int reader : bad) {
            Check.outOfBounds(x, "takes(" + reader + ", 256)", () -> x.takes(reader, 256));
        }
        int[] badKeys = {-1, 256, Integer.MIN_VALUE, Integer.MAX_VALUE};
        for (int keys : badKeys) {
            Check.badArgument(x, "takes(0, " + keys + ")", () -> x.takes(0, keys));
        }
    }

    private static void takeByOrder() {
        SkipRows x = new SkipRows();
        x.put(0, 2);
        x.put(1, 9);
        x.put(2, 2);
        x.put(3, 9);
        x.pass(2);
        int[] order = {1, 3, 0, 2};
        for (int row : order) {
            Check.due("take(0, 1)", x.take(0, 1), 1);
            Check.due("the row " + row + " is held by", x.row(row, 4), 0);
            Check.due("its state", x.row(row, 3), 1);
            Check.due("its hold lapses at", x.row(row, 5), 7);
        }
        Check.due("take(1, 1) of nothing", x.take(1, 1), 0);
        Check.undoable(x, "take(1, 1) of nothing", () -> x.take(1, 1));
        x.giveBack(0, 2);
        Check.undoable(x, "take(1, 1)", () -> x.take(1, 1));
    }

    private static void takeSkips() {
        SkipRows x = new SkipRows();
        for (int key = 0; key < 5; key++) {
            x.put(key, 9 - key);
        }
        x.takes(1, 2 + 8);
        Check.due("take(0, 1)", x.take(0, 1), 1);
        Check.due("no skips so far", x.count(9), 0);
        Check.due("take(1, 2)", x.take(1, 2), 2);
        int[] skips = {1, 0, 1, 0, 0};
        for (int row = 0; row < 5; row++) {
            Check.due("skips of the row " + row, x.row(row, 7), skips[row]);
        }
        Check.due("all skips", x.count(9), 2);
        Check.due("take(0, 24), and its own hold is skipped", x.take(0, 24), 2);
        int[] more = {2, 1, 1, 1, 0};
        for (int row = 0; row < 5; row++) {
            Check.due("then skips of the row " + row, x.row(row, 7), more[row]);
        }
        x.done(0, 0);
        x.sweep();
        Check.due("all skips, also of what was swept", x.count(9), 5);
        x.take(3, 24);
        Check.due("all skips after a look at held rows alone", x.count(9), 9);
        x.undo();
        Check.due("all skips after undo", x.count(9), 5);
        x.pass(5);
        Check.due("skips stay when a hold ends", x.row(0, 7), 1);
    }

    private static void takeInOrderOfKeys() {
        SkipRows x = new SkipRows();
        x.put(1, 0);
        x.put(1, 9);
        x.put(2, 5);
        x.put(1, 0);
        x.set(2, 1);
        Check.due("the row 1 is blocked", x.row(1, 8), 1);
        Check.due("the row 0 is not", x.row(0, 8), 0);
        Check.due("take(0, 24)", x.take(0, 24), 2);
        Check.due("the row 0 is taken", x.row(0, 4), 0);
        Check.due("the row 2 is taken", x.row(2, 4), 0);
        Check.due("the row 1 was skipped", x.row(1, 7), 1);
        Check.due("the row 3 was skipped behind what was taken just now", x.row(3, 7), 1);
        Check.due("take(0, 24) while the row 0 is held", x.take(0, 24), 0);
        x.done(0, 0);
        Check.due("a done row blocks no more", x.row(1, 8), 0);
        Check.due("take(3, 1)", x.take(3, 1), 1);
        Check.due("the row 1 is taken", x.row(1, 4), 3);
        Check.due("the row 3 is blocked by a held row", x.row(3, 8), 1);
        x.set(1, 1);
        x.pass(5);
        Check.due("the row 1 is dead", x.row(1, 3), 3);
        Check.due("a dead row blocks no more", x.row(3, 8), 0);
        x.revive(1);
        Check.due("a revived one does", x.row(3, 8), 1);
        x.set(2, 0);
        Check.due("no row is blocked without the setting", x.row(3, 8), 0);
    }

    private static void takeLimits() {
        SkipRows x = new SkipRows();
        for (int i = 0; i < 24; i++) {
            x.put(0, 0);
        }
        Check.due("take(0, 24) up to the setting", x.take(0, 24), 4);
        Check.due("rows behind are not looked at", x.row(4, 7), 0);
        Check.due("take(0, 1) with no room", x.take(0, 1), 0);
        Check.due("no row was looked at", x.count(9), 0);
        x.set(3, 6);
        Check.due("take(0, 1)", x.take(0, 1), 1);
        Check.due("skips so far", x.count(9), 4);
        Check.due("take(0, 24) of what is left", x.take(0, 24), 1);
        x.set(3, 24);
        Check.due("take(1, 24)", x.take(1, 24), 18);
        Check.due("rows that it holds", x.reader(1, 1), 18);
    }

    private static void takeRefuses() {
        SkipRows x = new SkipRows();
        x.put(0, 0);
        int[] bad = {-1, 4, Integer.MIN_VALUE, Integer.MAX_VALUE};
        for (int reader : bad) {
            Check.outOfBounds(x, "take(" + reader + ", 0)", () -> x.take(reader, 0));
        }
        int[] badMost = {-1, 0, 25, Integer.MIN_VALUE, Integer.MAX_VALUE};
        for (int most : badMost) {
            Check.badArgument(x, "take(0, " + most + ")", () -> x.take(0, most));
        }
    }

    private static void done() {
        SkipRows x = held();
        Check.undoable(x, "done(1, 0)", () -> x.done(1, 0));
        Check.due("done(1, 0)", x.done(1, 0), 1);
        Check.due("done(1, 1)", x.done(1, 1), 2);
        Check.due("done(2, 2)", x.done(2, 2), 1);
        Check.due("its state", x.row(0, 3), 2);
        Check.due("its holder", x.row(0, 4), -1);
        Check.due("when its hold lapses", x.row(0, 5), -1);
        Check.due("its place", x.row(0, 9), -1);
        Check.due("rows that were done so far", x.count(7), 3);
        Check.due("rows that the reader 1 holds", x.reader(1, 1), 0);
        Check.badState(x, "done(1, 0) again", () -> x.done(1, 0));
        refusesWithoutHold(x, "done", true);
    }

    private static void giveBack() {
        SkipRows x = held();
        x.pass(5);
        x.take(1, 2);
        Check.undoable(x, "giveBack(1, 0)", () -> x.giveBack(1, 0));
        Check.due("giveBack(1, 0)", x.giveBack(1, 0), 1);
        Check.due("its state", x.row(0, 3), 0);
        Check.due("its holder", x.row(0, 4), -1);
        Check.due("when its hold lapses", x.row(0, 5), -1);
        Check.due("its tries stay", x.row(0, 6), 1);
        Check.due("giveBack(1, 1)", x.giveBack(1, 1), 0);
        Check.due("rows that it gave back", x.reader(1, 3), 2);
        Check.due("of others", x.reader(2, 3), 0);
        Check.badState(x, "giveBack(1, 0) again", () -> x.giveBack(1, 0));
        refusesWithoutHold(x, "giveBack", false);
    }

    /** The row 2 is in no hand of the reader 1, the rows end with 3. */
    private static void refusesWithoutHold(SkipRows x, String name, boolean does) {
        int[] badReaders = {-1, 4, Integer.MIN_VALUE, Integer.MAX_VALUE};
        for (int reader : badReaders) {
            Check.outOfBounds(x, name + "(" + reader + ", 0)", () -> end(x, does, reader, 0));
        }
        int[] badRows = {-1, 4, Integer.MIN_VALUE, Integer.MAX_VALUE};
        for (int row : badRows) {
            Check.outOfBounds(x, name + "(0, " + row + ")", () -> end(x, does, 0, row));
        }
        Check.badState(x, name + "(1, 2)", () -> end(x, does, 1, 2));
        Check.badState(x, name + "(0, 3)", () -> end(x, does, 0, 3));
    }

    private static long end(SkipRows x, boolean does, int reader, int row) {
        return does ? x.done(reader, row) : x.giveBack(reader, row);
    }

    private static void renew() {
        SkipRows x = held();
        x.pass(4);
        x.set(0, 9);
        Check.undoable(x, "renew(1)", () -> x.renew(1));
        Check.due("renew(1)", x.renew(1), 2);
        Check.due("the row 0 lapses at", x.row(0, 5), 13);
        Check.due("the row 1 lapses at", x.row(1, 5), 13);
        Check.due("the row 2 of another lapses at", x.row(2, 5), 5);
        Check.due("renew(0) of nothing", x.renew(0), 0);
        Check.undoable(x, "renew(0) of nothing", () -> x.renew(0));
        x.set(0, 1);
        Check.due("renew(1) to a nearer end", x.renew(1), 2);
        Check.due("the row 0 lapses then at", x.row(0, 5), 5);
        int[] bad = {-1, 4, Integer.MIN_VALUE, Integer.MAX_VALUE};
        for (int reader : bad) {
            Check.outOfBounds(x, "renew(" + reader + ")", () -> x.renew(reader));
        }
    }

    private static void pass() {
        SkipRows x = held();
        Check.due("pass(4)", x.pass(4), 0);
        Check.due("the time", x.count(0), 4);
        x.renew(2);
        Check.undoable(x, "pass(1)", () -> x.pass(1));
        Check.due("pass(1)", x.pass(1), 2);
        Check.due("the row 0 waits", x.row(0, 3), 0);
        Check.due("its holder", x.row(0, 4), -1);
        Check.due("when its hold lapses", x.row(0, 5), -1);
        Check.due("its tries", x.row(0, 6), 1);
        Check.due("tries of a row that nobody held", x.row(3, 6), 0);
        Check.due("the row 2 is held", x.row(2, 3), 1);
        Check.due("holds of the reader 1 that ended", x.reader(1, 4), 2);
        Check.due("pass(99)", x.pass(99), 1);
        Check.due("holds of the reader 2 that ended", x.reader(2, 4), 1);
        Check.due("the time", x.count(0), 104);
        Check.due("how long ago a row was put", x.row(0, 10), 104);
        Check.due("pass(1) of nothing", x.pass(1), 0);
        Check.undoable(x, "pass(1) of nothing", () -> x.pass(1));
    }

    private static void passRefuses() {
        SkipRows x = held();
        int[] bad = {-1, 0, 100, Integer.MIN_VALUE, Integer.MAX_VALUE};
        for (int units : bad) {
            Check.badArgument(x, "pass(" + units + ")", () -> x.pass(units));
        }
        for (int i = 0; i < 101; i++) {
            x.pass(99);
        }
        Check.due("the greatest time", x.count(0), 9999);
        Check.badState(x, "pass(1) at 9999", () -> x.pass(1));
        Check.badState(x, "pass(99) at 9999", () -> x.pass(99));
        Check.badArgument(x, "pass(100) at 9999", () -> x.pass(100));
        x.take(0, 1);
        Check.due("a hold lapses behind the greatest time", x.row(0, 5), 10004);
        Check.due("ifPassed beyond the greatest time", x.ifPassed(5, 0), 1);
        x.undo();
        x.undo();
        Check.due("the time after undo", x.count(0), 9900);
        x.pass(98);
        Check.badState(x, "pass(2) at 9998", () -> x.pass(2));
        x.pass(1);
        Check.due("the greatest time again", x.count(0), 9999);
    }

    private static void tries() {
        SkipRows x = new SkipRows();
        x.put(0, 0);
        for (int tries = 1; tries <= 3; tries++) {
            x.take(0, 1);
            Check.due("pass(6)", x.pass(6), 1);
            Check.due("its tries", x.row(0, 6), tries);
            Check.due("its state", x.row(0, 3), tries < 3 ? 0 : 3);
        }
        Check.due("a dead row is in no order", x.row(0, 9), -1);
        Check.due("a dead row is not taken", x.take(0, 1), 0);
        Check.due("a dead row is not skipped", x.row(0, 7), 0);
        x.revive(0);
        x.take(0, 1);
        x.set(1, 9);
        x.pass(5);
        x.take(0, 1);
        x.pass(5);
        x.take(0, 1);
        x.pass(5);
        x.take(0, 1);
        x.set(1, 2);
        Check.due("a row with more tries than allowed is held still", x.row(0, 3), 1);
        x.pass(5);
        Check.due("and dead when its hold ends", x.row(0, 3), 3);
        Check.due("with its tries", x.row(0, 6), 4);
    }

    /** All rows that there can be are held, renewed and lapse, of each reader some. */
    private static void fullTable() {
        SkipRows x = new SkipRows();
        Check.type(x, "k0*9;k1*9;k2*6");
        x.putAll();
        x.set(3, 6);
        for (int reader = 0; reader < 4; reader++) {
            Check.due("take(" + reader + ", 24)", x.take(reader, 24), 6);
            Check.due("when its first hold lapses", x.reader(reader, 5), 5);
        }
        Check.due("all skips", x.count(9), 6 + 12 + 18);
        Check.due("renew(3)", x.renew(3), 6);
        Check.due("ifPassed(5, 0)", x.ifPassed(5, 0), 24);
        Check.undoable(x, "pass(5)", () -> x.pass(5));
        Check.due("pass(5)", x.pass(5), 24);
        for (int reader = 0; reader < 4; reader++) {
            Check.due("holds of a reader that ended", x.reader(reader, 4), 6);
            Check.due("rows that it holds then", x.reader(reader, 1), 0);
            Check.due("when its first hold lapses then", x.reader(reader, 5), -1);
        }
        Check.due("the last row's place", x.row(23, 9), 23);
        Check.due("the first row that waits", x.count(11), 0);
    }

    /** The rows 0 and 1 are held by the reader 1, 2 by the reader 2, 3 waits; the time is 0. */
    private static SkipRows held() {
        SkipRows x = new SkipRows();
        for (int key = 0; key < 4; key++) {
            x.put(key, 0);
        }
        x.take(1, 2);
        x.take(2, 1);
        return x;
    }
}
