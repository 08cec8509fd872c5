/** Promises 1 to 6: a new object, put, urge, revive, sweep, set. */
public final class RowsTest {
    public static void main(String[] args) {
        newObject();
        put();
        putRefuses();
        urge();
        urgeRefuses();
        revive();
        reviveRefuses();
        sweep();
        sweepMovesWhole();
        set();
        setRefuses();
        Check.end("RowsTest");
    }

    private static void newObject() {
        SkipRows x = new SkipRows();
        for (int what = 0; what <= 12; what++) {
            Check.due("count(" + what + ") of a new object", x.count(what), what == 11 ? SkipRows.NONE : 0);
        }
        int[] settings = {5, 3, 0, 4};
        for (int setting = 0; setting < 4; setting++) {
            Check.due("setting(" + setting + ") of a new object", x.setting(setting), settings[setting]);
        }
        int[] properties = {255, 0, 0, 0, 0, -1, -1};
        for (int reader = 0; reader < 4; reader++) {
            for (int what = 0; what < 7; what++) {
                Check.due("reader(" + reader + ", " + what + ")", x.reader(reader, what), properties[what]);
            }
        }
        Check.due("NONE", SkipRows.NONE, -1);
        Check.due("clearBuffer() of a new object", x.clearBuffer(), 0);
        Check.due("firstError() of a new object", x.firstError(), 0);
        Check.outOfBounds(x, "row(0, 0) of a new object", () -> x.row(0, 0));
        Check.badState(x, "undo() of a new object", () -> x.undo());
    }

    private static void put() {
        SkipRows x = new SkipRows();
        Check.due("put(7, 9)", x.put(7, 9), 0);
        x.pass(3);
        Check.due("put(0, 0)", x.put(0, 0), 1);
        int[] first = {7, 9, 0, 0, -1, -1, 0, 0, 0, 0, 3};
        int[] second = {0, 0, 1, 0, -1, -1, 0, 0, 0, 1, 0};
        for (int what = 0; what <= 10; what++) {
            Check.due("row(0, " + what + ")", x.row(0, what), first[what]);
            Check.due("row(1, " + what + ")", x.row(1, what), second[what]);
        }
        Check.undoable(x, "put(3, 4)", () -> x.put(3, 4));
        Check.due("put(3, 4) behind an undo", x.put(3, 4), 2);
        Check.due("the mark is counted anew behind an undo", x.row(2, 2), 2);
    }

    private static void putRefuses() {
        SkipRows x = new SkipRows();
        int[] bad = {-1, 8, Integer.MIN_VALUE, Integer.MAX_VALUE};
        for (int key : bad) {
            Check.badArgument(x, "put(" + key + ", 0)", () -> x.put(key, 0));
        }
        int[] badUrgencies = {-1, 10, Integer.MIN_VALUE, Integer.MAX_VALUE};
        for (int urgency : badUrgencies) {
            Check.badArgument(x, "put(0, " + urgency + ")", () -> x.put(0, urgency));
        }
        for (int row = 0; row < 24; row++) {
            Check.due("put as the row " + row, x.put(row % 8, row % 10), row);
        }
        Check.badState(x, "put as the row 24", () -> x.put(0, 0));
        Check.badArgument(x, "put(8, 0) into a full table", () -> x.put(8, 0));
        Check.badArgument(x, "put(0, 10) into a full table", () -> x.put(0, 10));
    }

    private static void urge() {
        SkipRows x = new SkipRows();
        x.put(1, 3);
        x.put(1, 5);
        Check.due("urge(0, 9)", x.urge(0, 9), 3);
        Check.due("its urgency then", x.row(0, 1), 9);
        Check.due("the other's urgency then", x.row(1, 1), 5);
        Check.due("its place then", x.row(0, 9), 0);
        Check.due("urge(0, 0)", x.urge(0, 0), 9);
        Check.due("its place then", x.row(0, 9), 1);
        x.take(2, 1);
        Check.due("urge of a row that is held", x.urge(1, 2), 5);
        Check.due("who holds it still", x.row(1, 4), 2);
        Check.undoable(x, "urge(0, 7)", () -> x.urge(0, 7));
        Check.undoable(x, "urge(0, 0) that changes nothing", () -> x.urge(0, 0));
    }

    private static void urgeRefuses() {
        SkipRows x = Tables.ofEachState();
        int[] bad = {-1, 4, Integer.MIN_VALUE, Integer.MAX_VALUE};
        for (int row : bad) {
            Check.outOfBounds(x, "urge(" + row + ", 10)", () -> x.urge(row, 10));
        }
        Check.badArgument(x, "urge(3, 10) of a done row", () -> x.urge(3, 10));
        Check.badArgument(x, "urge(0, -1)", () -> x.urge(0, -1));
        Check.badState(x, "urge of a done row", () -> x.urge(2, 1));
        Check.badState(x, "urge of a dead row", () -> x.urge(3, 1));
        Check.due("urge of a row that waits", x.urge(0, 1), 0);
        Check.due("urge of a row that is held", x.urge(1, 1), 7);
    }

    private static void revive() {
        SkipRows x = Tables.ofEachState();
        Check.undoable(x, "revive(3)", () -> x.revive(3));
        Check.due("revive(3)", x.revive(3), 1);
        Check.due("its state then", x.row(3, 3), 0);
        Check.due("its tries then", x.row(3, 6), 0);
        Check.due("its mark then", x.row(3, 2), 3);
        Check.due("how long ago it was put", x.row(3, 10), x.count(0));
        x.set(1, 2);
        x.take(3, 1);
        x.pass(5);
        Check.due("tries after another hold", x.row(3, 6), 1);
        Check.due("it waits, for two tries are allowed", x.row(3, 3), 0);
        x.take(3, 1);
        x.pass(5);
        Check.due("revive(3) with two tries", x.revive(3), 2);
    }

    private static void reviveRefuses() {
        SkipRows x = Tables.ofEachState();
        for (int row = 0; row < 3; row++) {
            int at = row;
            Check.badState(x, "revive(" + row + ")", () -> x.revive(at));
        }
        int[] bad = {-1, 4, Integer.MIN_VALUE, Integer.MAX_VALUE};
        for (int row : bad) {
            Check.outOfBounds(x, "revive(" + row + ")", () -> x.revive(row));
        }
    }

    private static void sweep() {
        SkipRows x = new SkipRows();
        Check.undoable(x, "sweep() of an empty table", () -> x.sweep());
        Check.due("sweep() of an empty table", x.sweep(), 0);
        for (int key = 0; key < 5; key++) {
            x.put(key, 9 - key);
        }
        x.take(0, 4);
        x.done(0, 0);
        x.done(0, 2);
        Check.undoable(x, "sweep()", () -> x.sweep());
        Check.due("sweep()", x.sweep(), 2);
        Check.due("rows then", x.count(1), 3);
        Check.due("rows that are done then", x.count(4), 0);
        Check.due("rows that were done so far", x.count(7), 2);
        Check.due("rows that were put so far", x.count(6), 5);
        int[] marks = {1, 3, 4};
        for (int row = 0; row < 3; row++) {
            Check.due("the mark of the row " + row, x.row(row, 2), marks[row]);
            Check.due("the key of the row " + row, x.row(row, 0), marks[row]);
            Check.due("the holder of the row " + row, x.row(row, 4), row < 2 ? 0 : -1);
        }
        Check.outOfBounds(x, "row(3, 0) after sweep()", () -> x.row(3, 0));
        Check.due("put(6, 6) after sweep()", x.put(6, 6), 3);
        Check.due("its mark", x.row(3, 2), 5);
        Check.due("its state", x.row(3, 3), 0);
        Check.due("its holder", x.row(3, 4), -1);
        Check.due("sweep() again", x.sweep(), 0);
        SkipRows other = Tables.ofEachState();
        Check.due("sweep() leaves waiting, held and dead rows", other.sweep(), 1);
        Check.due("the dead row is there still", other.row(2, 3), 3);
    }

    /** A row that moves keeps all that it knows, and one that is put where another was begins anew. */
    private static void sweepMovesWhole() {
        SkipRows x = new SkipRows();
        x.put(1, 9);
        x.pass(1);
        x.put(2, 8);
        x.take(3, 2);
        x.pass(5);
        x.take(1, 1);
        x.set(0, 7);
        x.take(2, 1);
        x.done(1, 0);
        int[] moved = {2, 8, 1, 1, 2, 13, 1, 0, 0, 0, 5};
        Check.undoable(x, "sweep()", () -> x.sweep());
        Check.due("the row 1 is back behind undo()", x.row(1, 2), 1);
        x.take(0, 1);
        moved[7] = 1;
        Check.due("sweep()", x.sweep(), 1);
        for (int what = 0; what <= 10; what++) {
            Check.due("row(0, " + what + ") of the row that moved", x.row(0, what), moved[what]);
        }
        x.done(2, 0);
        Check.due("sweep() of the last row", x.sweep(), 1);
        x.put(5, 4);
        int[] begun = {5, 4, 2, 0, -1, -1, 0, 0, 0, 0, 0};
        for (int what = 0; what <= 10; what++) {
            Check.due("row(0, " + what + ") of a row put anew", x.row(0, what), begun[what]);
        }
        x.take(0, 1);
        x.put(6, 3);
        x.undo();
        x.put(7, 2);
        int[] again = {7, 2, 3, 0, -1, -1, 0, 0, 0, 1, 0};
        for (int what = 0; what <= 10; what++) {
            Check.due("row(1, " + what + ") of a row put behind undo()", x.row(1, what), again[what]);
        }
        overUndone(x);
    }

    /** The row that undo takes away was held, skipped and tried: nothing of it is in the next one. */
    private static void overUndone(SkipRows x) {
        x.undo();
        x.put(7, 2);
        x.takes(1, 0);
        x.take(1, 1);
        x.take(2, 1);
        x.pass(7);
        x.take(2, 2);
        Check.due("tries of the row 1", x.row(1, 6), 1);
        Check.due("undo()", x.undo() + x.undo() + x.undo() + x.undo() + x.undo() + x.undo(), 15);
        Check.due("rows then", x.count(1), 1);
        x.put(0, 0);
        int[] begun = {0, 0, 3, 0, -1, -1, 0, 0, 0, 1, 0};
        for (int what = 0; what <= 10; what++) {
            Check.due("row(1, " + what + ") over an undone one", x.row(1, what), begun[what]);
        }
    }

    private static void set() {
        int[] least = {1, 1, 0, 1};
        int[] greatest = {99, 9, 1, 24};
        int[] first = {5, 3, 0, 4};
        for (int setting = 0; setting < 4; setting++) {
            int at = setting;
            SkipRows x = new SkipRows();
            Check.due("set to the least", x.set(setting, least[setting]), first[setting]);
            Check.due("set to the greatest", x.set(setting, greatest[setting]), least[setting]);
            Check.due("setting then", x.setting(setting), greatest[setting]);
            Check.badArgument(x, "set below", () -> x.set(at, least[at] - 1));
            Check.badArgument(x, "set above", () -> x.set(at, greatest[at] + 1));
            Check.undoable(x, "set(" + setting + ")", () -> x.set(at, 1));
        }
        SkipRows x = new SkipRows();
        x.put(0, 0);
        x.put(0, 0);
        x.take(1, 2);
        x.set(0, 50);
        Check.due("a hold lapses as before", x.row(0, 5), 5);
        x.set(3, 1);
        Check.due("a reader keeps what it holds", x.reader(1, 1), 2);
        x.put(0, 0);
        Check.due("and takes no more", x.take(1, 1), 0);
        Check.due("and looks at no row", x.count(9), 0);
        x.giveBack(1, 0);
        Check.due("and takes no more at the limit", x.take(1, 1), 0);
    }

    private static void setRefuses() {
        SkipRows x = new SkipRows();
        int[] bad = {-1, 4, Integer.MIN_VALUE, Integer.MAX_VALUE};
        for (int setting : bad) {
            Check.outOfBounds(x, "set(" + setting + ", -5)", () -> x.set(setting, -5));
            Check.outOfBounds(x, "set(" + setting + ", 1)", () -> x.set(setting, 1));
        }
        Check.badArgument(x, "set(3, MAX)", () -> x.set(3, Integer.MAX_VALUE));
        Check.badArgument(x, "set(3, MIN)", () -> x.set(3, Integer.MIN_VALUE));
    }
}
