/** Each sentence on rows and settings that names an edge: the section Rows, Settings, promises 1 to 6. */
public final class RowEdgesTest {
    public static void main(String[] args) {
        emptyTable();
        emptyTableRefuses();
        atMost24Rows();
        rowsOfEveryStateCount();
        roomBehindSweepAndUndo();
        everyKeyAndUrgency();
        numbersBehindSweep();
        marks();
        triesAtFirst();
        timesOfPut();
        orderByUrgencyAndMark();
        urgeEdges();
        reviveEdges();
        revivedWithoutTries();
        revivedRowStaysItself();
        sweepEdges();
        settingsAtFirst();
        settingRanges();
        holdsLapseAsBefore();
        readersKeepWhatTheyHold();
        whichException();
        Check.end("RowEdgesTest");
    }

    /** "Creates an empty table, at the time 0, with an empty buffer." */
    private static void emptyTable() {
        SkipRows x = new SkipRows();
        Check.due("digest() of a new object", x.digest(), Digest.of(new SkipRows(), ""));
        Check.due("the time", x.count(0), 0);
        Check.due("rows", x.count(1), 0);
        Check.due("the row that waits and was put first", x.count(11), SkipRows.NONE);
        Check.due("saved states", x.count(12), 0);
        Check.due("firstError() of an empty buffer", x.firstError(), 0);
        Check.due("freest()", x.freest(), SkipRows.NONE);
        Check.due("fairness()", x.fairness(), 1.0);
        for (int reader = 0; reader < 4; reader++) {
            Check.due("the row that a reader would take", x.reader(reader, 6), SkipRows.NONE);
            Check.due("take of an empty table", x.take(reader, 24), 0);
            Check.due("renew of an empty table", x.renew(reader), 0);
        }
        Check.due("sweep() of an empty table", x.sweep(), 0);
        Check.due("pass(99) of an empty table", x.pass(99), 0);
        Check.due("the length of an empty buffer", x.clearBuffer(), 0);
    }

    private static void emptyTableRefuses() {
        SkipRows x = new SkipRows();
        Check.outOfBounds(x, "urge(0, 0)", () -> x.urge(0, 0));
        Check.outOfBounds(x, "revive(0)", () -> x.revive(0));
        Check.outOfBounds(x, "done(0, 0)", () -> x.done(0, 0));
        Check.outOfBounds(x, "giveBack(0, 0)", () -> x.giveBack(0, 0));
        Check.outOfBounds(x, "row(0, 0)", () -> x.row(0, 0));
        Check.badArgument(x, "putAll() of an empty buffer", () -> x.putAll());
        Check.badState(x, "undo()", () -> x.undo());
    }

    /** "There are at most 24 rows"; put "Throws IllegalStateException if there are 24 rows". */
    private static void atMost24Rows() {
        SkipRows x = Tables.filled(22);
        Check.due("put as the 23rd row", x.put(1, 1), 22);
        Check.due("put as the 24th row", x.put(2, 2), 23);
        Check.badState(x, "put as the 25th row", () -> x.put(3, 3));
        Check.due("rows", x.count(1), 24);
        Check.due("rows that were put so far", x.count(6), 24);
        Check.due("the key of the last row", x.row(23, 0), 2);
        Check.outOfBounds(x, "row(24, 0) of a full table", () -> x.row(24, 0));
    }

    private static void rowsOfEveryStateCount() {
        SkipRows x = Tables.filled(24);
        x.set(1, 1);
        x.take(0, 4);
        x.pass(5);
        x.take(1, 4);
        x.done(1, 4);
        x.done(1, 6);
        Check.due("states", Tables.each(x, 3), "3 3 3 3 2 1 2 1 0 0 0 0 0 0 0 0 0 0 0 0 0 0 0 0");
        Check.badState(x, "put while held, done and dead rows fill the table", () -> x.put(0, 0));
        Check.due("sweep()", x.sweep(), 2);
        Check.due("states behind it", Tables.each(x, 3), "3 3 3 3 1 1 0 0 0 0 0 0 0 0 0 0 0 0 0 0 0 0");
        Check.due("put behind it", x.put(0, 0), 22);
        Check.due("put behind it", x.put(0, 0), 23);
        Check.badState(x, "put as the 25th row behind it", () -> x.put(0, 0));
    }

    private static void roomBehindSweepAndUndo() {
        SkipRows x = Tables.filled(24);
        x.undo();
        Check.due("put behind undo()", x.put(1, 1), 23);
        x.take(0, 1);
        x.done(0, 23);
        x.sweep();
        Check.due("put behind sweep()", x.put(1, 1), 23);
        x.undo();
        x.undo();
        Check.badState(x, "put into a table that undo() filled", () -> x.put(1, 1));
    }

    /** "A row has a key, 0 to 7, an urgency, 0 to 9". */
    private static void everyKeyAndUrgency() {
        for (int key = 0; key <= 7; key++) {
            for (int urgency = 0; urgency <= 9; urgency++) {
                SkipRows x = new SkipRows();
                Check.due("put(" + key + ", " + urgency + ")", x.put(key, urgency), 0);
                Check.due("its key", x.row(0, 0), key);
                Check.due("its urgency", x.row(0, 1), urgency);
            }
        }
        SkipRows x = new SkipRows();
        Check.badArgument(x, "put(-1, 0)", () -> x.put(-1, 0));
        Check.badArgument(x, "put(8, 0)", () -> x.put(8, 0));
        Check.badArgument(x, "put(0, -1)", () -> x.put(0, -1));
        Check.badArgument(x, "put(0, 10)", () -> x.put(0, 10));
    }

    /** "rows that are swept leave; those behind them have numbers that are less then". */
    private static void numbersBehindSweep() {
        behindSweep("0", "1 2 3 4 5");
        behindSweep("5", "0 1 2 3 4");
        behindSweep("2", "0 1 3 4 5");
        behindSweep("0 5", "1 2 3 4");
        behindSweep("1 2 3", "0 4 5");
        behindSweep("0 2 4", "1 3 5");
        behindSweep("0 1 2 3 4 5", "");
        behindSweep("", "0 1 2 3 4 5");
    }

    private static void behindSweep(String done, String marks) {
        SkipRows x = Tables.of("k0u3;k1u3;k2u3;k3u3;k4u3;k5u3");
        x.set(3, 6);
        x.take(0, 6);
        int swept = 0;
        for (int row = 0; row < 6; row++) {
            if (done.indexOf((char) ('0' + row)) >= 0) {
                x.done(0, row);
                swept++;
            }
        }
        Check.due("sweep() of " + done, x.sweep(), swept);
        Check.due("marks behind sweep() of " + done, Tables.each(x, 2), marks);
        Check.due("keys behind sweep() of " + done, Tables.each(x, 0), marks);
        Check.outOfBounds(x, "the row behind the last", () -> x.row(x.count(1), 2));
        Check.due("put behind sweep()", x.put(7, 7), 6 - swept);
        Check.due("its mark", x.row(6 - swept, 2), 6);
    }

    /** "a mark, which is the number of rows that were put ahead of it since the beginning". */
    private static void marks() {
        SkipRows x = new SkipRows();
        x.put(0, 9);
        x.put(1, 8);
        x.undo();
        Check.badArgument(x, "put(8, 0)", () -> x.put(8, 0));
        x.put(1, 8);
        Check.due("marks behind undo() and a refused put", Tables.each(x, 2), "0 1");
        x.take(0, 1);
        x.done(0, 0);
        x.sweep();
        x.put(2, 7);
        Tables.put(x, "k3*2");
        Check.due("marks behind sweep() and putAll()", Tables.each(x, 2), "1 2 3 4");
        Check.due("rows that were put so far", x.count(6), 5);
        x.undo();
        x.put(4, 0);
        Check.due("marks behind undo() of putAll()", Tables.each(x, 2), "1 2 3");
    }

    /** "and tries, at first 0": also of a row that stands where one with tries stood. */
    private static void triesAtFirst() {
        SkipRows x = Tables.of("k1;k2u3*2");
        Check.due("tries", Tables.each(x, 6), "0 0 0");
        x.take(0, 3);
        x.pass(5);
        x.take(0, 3);
        for (int row = 0; row < 3; row++) {
            x.done(0, row);
        }
        Check.due("tries of done rows", Tables.each(x, 6), "1 1 1");
        x.sweep();
        x.put(1, 1);
        Tables.put(x, "k1*2");
        Check.due("tries of new rows", Tables.each(x, 6), "0 0 0");
        Check.due("skips of new rows", Tables.each(x, 7), "0 0 0");
        Check.due("holders of new rows", Tables.each(x, 4), "-1 -1 -1");
        Check.due("when their holds lapse", Tables.each(x, 5), "-1 -1 -1");
        Check.due("states of new rows", Tables.each(x, 3), "0 0 0");
    }

    /** "There is a time, at first 0. A row knows the time at which it was put." */
    private static void timesOfPut() {
        SkipRows x = new SkipRows();
        x.put(0, 9);
        Check.due("how long ago, at the time 0", x.row(0, 10), 0);
        x.pass(1);
        x.put(0, 8);
        x.pass(99);
        Tables.put(x, "k0u7");
        Check.due("how long ago", Tables.each(x, 10), "100 99 0");
        x.take(0, 1);
        x.done(0, 0);
        x.sweep();
        Check.due("how long ago behind sweep()", Tables.each(x, 10), "99 0");
        Tables.passAll(x, 9899);
        Check.due("how long ago at the greatest time", Tables.each(x, 10), "9998 9899");
        x.put(0, 0);
        Check.due("of a row that was put at it", x.row(2, 10), 0);
    }

    /** "by their urgency, the greater one first, of several by their mark, the lower one first". */
    private static void orderByUrgencyAndMark() {
        SkipRows x = Tables.of("k0u5;k1u6;k2u5;k3u4;k4u6;k5u0;k6u9;k7");
        Check.due("places", Tables.each(x, 9), "3 1 4 5 2 6 0 7");
        SkipRows full = Tables.filled(24);
        StringBuilder places = new StringBuilder("0");
        for (int row = 1; row < 24; row++) {
            places.append(' ').append(row);
        }
        Check.due("places by mark alone", Tables.each(full, 9), places.toString());
        full.urge(23, 1);
        Check.due("the last row, more urgent", full.row(23, 9), 0);
        Check.due("the first row then", full.row(0, 9), 1);
        Check.due("the last but one then", full.row(22, 9), 23);
    }

    /** urge: "urgency: 0 to 9", "if there is no such row", "if it is done or dead". */
    private static void urgeEdges() {
        SkipRows x = Tables.of("k0u5;k0u5;k0u4");
        Check.due("urge(2, 5) to the same as others", x.urge(2, 5), 4);
        Check.due("places: the lower mark is ahead", Tables.each(x, 9), "0 1 2");
        Check.due("urge(2, 6)", x.urge(2, 6), 5);
        Check.due("places", Tables.each(x, 9), "1 2 0");
        Check.due("urge(0, 0)", x.urge(0, 0), 5);
        Check.due("urge(0, 9)", x.urge(0, 9), 0);
        Check.due("places", Tables.each(x, 9), "0 2 1");
        Check.due("urge(0, 9) to the urgency that it has", x.urge(0, 9), 9);
        Check.badArgument(x, "urge(0, -1)", () -> x.urge(0, -1));
        Check.badArgument(x, "urge(0, 10)", () -> x.urge(0, 10));
        Check.outOfBounds(x, "urge(-1, 0)", () -> x.urge(-1, 0));
        Check.outOfBounds(x, "urge(3, 0)", () -> x.urge(3, 0));
        SkipRows full = Tables.filled(24);
        Check.due("urge of the last row of a full table", full.urge(23, 1), 0);
        Check.outOfBounds(full, "urge(24, 1)", () -> full.urge(24, 1));
        SkipRows each = Tables.ofEachState();
        Check.due("urge of a row that waits", each.urge(0, 1), 0);
        Check.due("urge of a row that is held", each.urge(1, 1), 7);
        Check.badState(each, "urge of a row that is done", () -> each.urge(2, 1));
        Check.badState(each, "urge of a row that is dead", () -> each.urge(3, 1));
        Check.due("urgencies", Tables.each(each, 1), "1 1 8 9");
    }

    /** revive: "Returns how many tries it had", "if it is not dead", "if there is no such row". */
    private static void reviveEdges() {
        SkipRows x = Tables.ofEachState();
        Check.badState(x, "revive of a row that waits", () -> x.revive(0));
        Check.badState(x, "revive of a row that is held", () -> x.revive(1));
        Check.badState(x, "revive of a row that is done", () -> x.revive(2));
        Check.outOfBounds(x, "revive(-1)", () -> x.revive(-1));
        Check.outOfBounds(x, "revive(4)", () -> x.revive(4));
        Check.due("revive of a dead row", x.revive(3), 1);
        Check.badState(x, "revive of a revived row", () -> x.revive(3));
        for (int tries = 1; tries <= 9; tries++) {
            SkipRows y = Tables.of("k3u3");
            y.set(1, tries);
            lapse(y, tries);
            Check.due("revive of a row with tries", y.revive(0), tries);
        }
        SkipRows more = Tables.of("k3u3");
        more.set(1, 9);
        lapse(more, 8);
        more.set(1, 1);
        lapse(more, 1);
        Check.due("revive of a row with more tries than the setting", more.revive(0), 9);
    }

    /** "Lets a dead row wait again, without tries." */
    private static void revivedWithoutTries() {
        SkipRows x = Tables.of("k3u3");
        x.set(1, 2);
        lapse(x, 2);
        x.revive(0);
        Check.due("its state", x.row(0, 3), 0);
        Check.due("its tries", x.row(0, 6), 0);
        lapse(x, 1);
        Check.due("its state after one more try", x.row(0, 3), 0);
        lapse(x, 1);
        Check.due("its state after two", x.row(0, 3), 3);
        Check.due("its tries after two", x.row(0, 6), 2);
    }

    private static void revivedRowStaysItself() {
        SkipRows x = Tables.of("k3u3;k3u4");
        x.set(1, 1);
        x.takes(2, 0);
        x.take(2, 1);
        x.take(0, 1);
        x.pass(5);
        x.set(2, 1);
        Check.due("a dead row skipped and blocked none", Tables.each(x, 7) + ", " + Tables.each(x, 8), "1 1, 0 0");
        x.revive(1);
        int[] due = {3, 4, 1, 0, -1, -1, 0, 1, 1, 0, 5};
        for (int what = 0; what <= 10; what++) {
            Check.due("row(1, " + what + ") of a revived row", x.row(1, what), due[what]);
        }
    }

    /** sweep: "rows that are done leave it", "Returns how many leave it." */
    private static void sweepEdges() {
        SkipRows x = Tables.of("k0*9;k1*9;k2*6");
        x.set(3, 24);
        x.take(3, 24);
        Check.due("sweep() of a full table without a done row", x.sweep(), 0);
        for (int row = 0; row < 24; row++) {
            x.done(3, row);
        }
        Check.due("sweep() of a full table of done rows", x.sweep(), 24);
        Check.due("rows then", x.count(1), 0);
        Check.due("rows that were done so far", x.count(7), 24);
        Check.due("rows that the reader did so far", x.reader(3, 2), 24);
        Check.outOfBounds(x, "row(0, 0)", () -> x.row(0, 0));
        Check.due("sweep() again", x.sweep(), 0);
        Check.due("put then", x.put(5, 5), 0);
        Check.due("its mark", x.row(0, 2), 24);
        SkipRows each = Tables.ofEachState();
        Check.due("sweep() of one row of each state", each.sweep(), 1);
        Check.due("states then", Tables.each(each, 3), "0 1 3");
        Check.due("done(1, 1) of the row that moved not", each.done(1, 1), 2);
    }

    /** "at first 5", "at first 3", "at first 0", "at first 4": by what they do. */
    private static void settingsAtFirst() {
        SkipRows x = Tables.of("k0*6");
        Check.due("settings", x.setting(0) + 100 * x.setting(1) + 10000 * x.setting(2) + 100000 * x.setting(3), 400305);
        Check.due("take of what a reader can hold", x.take(0, 24), 4);
        Check.due("pass(4)", x.pass(4), 0);
        Check.due("pass(1)", x.pass(1), 4);
        Check.due("rows that are blocked", x.count(8), 0);
        lapse(x, 1);
        Check.due("states after two tries", Tables.each(x, 3), "0 0 0 0 0 0");
        lapse(x, 1);
        Check.due("states after three tries", Tables.each(x, 3), "3 3 3 3 0 0");
    }

    /** "1 to 99", "1 to 9", "1 if .. otherwise 0", "1 to 24"; "if there is no such setting". */
    private static void settingRanges() {
        int[] least = {1, 1, 0, 1};
        int[] greatest = {99, 9, 1, 24};
        for (int setting = 0; setting < 4; setting++) {
            int at = setting;
            SkipRows x = new SkipRows();
            int previous = x.setting(setting);
            for (int value = least[setting]; value <= greatest[setting]; value++) {
                Check.due("set(" + setting + ", " + value + ")", x.set(setting, value), previous);
                Check.due("setting(" + setting + ")", x.setting(setting), value);
                previous = value;
            }
            Check.due("set to the value that it has", x.set(setting, previous), previous);
            Check.badArgument(x, "set(" + at + ") below", () -> x.set(at, least[at] - 1));
            Check.badArgument(x, "set(" + at + ") above", () -> x.set(at, greatest[at] + 1));
        }
        SkipRows x = new SkipRows();
        Check.outOfBounds(x, "set(-1, 1)", () -> x.set(-1, 1));
        Check.outOfBounds(x, "set(4, 1)", () -> x.set(4, 1));
        Check.outOfBounds(x, "setting(-1)", () -> x.setting(-1));
        Check.outOfBounds(x, "setting(4)", () -> x.setting(4));
    }

    /** set: "holds that there are lapse as before". */
    private static void holdsLapseAsBefore() {
        SkipRows x = Tables.of("k0*3");
        x.take(0, 1);
        x.set(0, 1);
        x.take(1, 1);
        x.set(0, 99);
        x.take(2, 1);
        Check.due("when the holds lapse", Tables.each(x, 5), "5 1 99");
        Check.due("pass(1)", x.pass(1), 1);
        Check.due("pass(3)", x.pass(3), 0);
        Check.due("pass(1)", x.pass(1), 1);
        Check.due("pass(93)", x.pass(93), 0);
        Check.due("pass(1)", x.pass(1), 1);
    }

    /** set: "readers keep what they hold". */
    private static void readersKeepWhatTheyHold() {
        SkipRows x = Tables.of("k0*6");
        x.take(0, 24);
        x.set(3, 1);
        Check.due("rows that it holds", x.reader(0, 1), 4);
        Check.due("take(0, 24)", x.take(0, 24), 0);
        Check.due("no row was looked at", x.count(9), 0);
        x.giveBack(0, 0);
        x.giveBack(0, 1);
        x.giveBack(0, 2);
        Check.due("take(0, 24) with one row held", x.take(0, 24), 0);
        x.giveBack(0, 3);
        Check.due("take(0, 24) with none", x.take(0, 24), 1);
    }

    /** "If several exceptions apply, the one that is named first in the throws clause is thrown." */
    private static void whichException() {
        SkipRows full = Tables.filled(24);
        Check.badArgument(full, "put(8, 0) into a full table", () -> full.put(8, 0));
        Check.badArgument(full, "put(0, 10) into a full table", () -> full.put(0, 10));
        Check.badArgument(full, "put(-1, -1) into a full table", () -> full.put(-1, -1));
        SkipRows x = Tables.ofEachState();
        Check.outOfBounds(x, "urge(4, 10)", () -> x.urge(4, 10));
        Check.outOfBounds(x, "urge(-1, -1)", () -> x.urge(-1, -1));
        Check.badArgument(x, "urge of a done row to 10", () -> x.urge(2, 10));
        Check.badArgument(x, "urge of a dead row to -1", () -> x.urge(3, -1));
        Check.outOfBounds(x, "set(4, 100)", () -> x.set(4, 100));
        Check.outOfBounds(x, "set(-1, -1)", () -> x.set(-1, -1));
    }

    /** So many times the reader 0 takes what it can, and its holds lapse. */
    private static void lapse(SkipRows x, int times) {
        for (int i = 0; i < times; i++) {
            x.take(0, 24);
            x.pass(x.setting(0));
        }
    }
}
