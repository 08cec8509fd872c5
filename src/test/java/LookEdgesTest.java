/** Each sentence on looks that names an edge: promises 18 to 22. */
public final class LookEdgesTest {
    public static void main(String[] args) {
        rowOfEachState();
        rowWhat();
        rowBounds();
        rowBlockedOnlyIfOpen();
        rowPlaces();
        readerAtFirst();
        readerFirstLapse();
        readerNext();
        readerNumbers();
        readerWhat();
        groupEdges();
        groupOfFullTable();
        groupRanges();
        countOfEmptyAndFull();
        countSoFar();
        countBlocked();
        countSkips();
        countPairs();
        countFirstWaiting();
        countSavedStates();
        countWhat();
        whichException();
        Check.end("LookEdgesTest");
    }

    /** row: "NONE if nobody does", "NONE if it is not held", "NONE if it is done or dead". */
    private static void rowOfEachState() {
        SkipRows x = Tables.ofEachState();
        Check.due("states", Tables.each(x, 3), "0 1 2 3");
        Check.due("who holds them", Tables.each(x, 4), "-1 1 -1 -1");
        Check.due("when their holds lapse", Tables.each(x, 5), "-1 10 -1 -1");
        Check.due("tries", Tables.each(x, 6), "0 0 0 1");
        Check.due("places", Tables.each(x, 9), "1 0 -1 -1");
        Check.due("how long ago", Tables.each(x, 10), "5 5 5 5");
        x.giveBack(1, 1);
        x.take(0, 2);
        Check.due("who holds them, reader 0 too", Tables.each(x, 4), "0 0 -1 -1");
        Check.due("places of held rows", Tables.each(x, 9), "1 0 -1 -1");
        x.pass(5);
        Check.due("places of dead rows", Tables.each(x, 9), "-1 -1 -1 -1");
        Check.due("who held them", Tables.each(x, 4), "-1 -1 -1 -1");
        Check.due("when their holds lapsed", Tables.each(x, 5), "-1 -1 -1 -1");
    }

    /** row: "if what is not 0 to 10". */
    private static void rowWhat() {
        SkipRows x = Tables.of("k7u9");
        int[] due = {7, 9, 0, 0, -1, -1, 0, 0, 0, 0, 0};
        for (int what = 0; what <= 10; what++) {
            Check.due("row(0, " + what + ")", x.row(0, what), due[what]);
        }
        Check.badArgument(x, "row(0, -1)", () -> x.row(0, -1));
        Check.badArgument(x, "row(0, 11)", () -> x.row(0, 11));
    }

    /** row: "if there is no such row". */
    private static void rowBounds() {
        for (int rows = 0; rows <= 24; rows++) {
            SkipRows x = Tables.filled(rows);
            int behind = rows;
            Check.outOfBounds(x, "row(-1, 0)", () -> x.row(-1, 0));
            Check.outOfBounds(x, "row(" + behind + ", 0)", () -> x.row(behind, 0));
            if (rows > 0) {
                Check.due("the mark of the first row", x.row(0, 2), 0);
                Check.due("the mark of the last row", x.row(rows - 1, 2), rows - 1);
            }
        }
    }

    /** row: "1 if it is blocked, and waits or is held, otherwise 0". */
    private static void rowBlockedOnlyIfOpen() {
        SkipRows x = Tables.of("k0;k0u6;k0u8;k0u9;k0u7");
        x.set(1, 1);
        x.take(0, 1);
        x.pass(5);
        x.take(1, 2);
        x.done(1, 2);
        x.set(2, 1);
        Check.due("states", Tables.each(x, 3), "0 0 2 3 1");
        Check.due("blocked", Tables.each(x, 8), "0 1 0 0 1");
        SkipRows full = Tables.filled(24);
        full.set(2, 1);
        Check.due("the first row of a full table of one key", full.row(0, 8), 0);
        Check.due("the second row", full.row(1, 8), 1);
        Check.due("the last row", full.row(23, 8), 1);
    }

    /** row: "its place, from 0, in the order for taking among the rows that wait or are held". */
    private static void rowPlaces() {
        SkipRows x = Tables.filled(24);
        Check.due("the place of the first row", x.row(0, 9), 0);
        Check.due("the place of the last row", x.row(23, 9), 23);
        x.take(0, 1);
        Check.due("the place of a held row", x.row(0, 9), 0);
        x.done(0, 0);
        Check.due("the place of a done row", x.row(0, 9), SkipRows.NONE);
        Check.due("the place of the second row then", x.row(1, 9), 0);
        Check.due("the place of the last row then", x.row(23, 9), 22);
        x.sweep();
        Check.due("the place of the last row behind sweep()", x.row(22, 9), 22);
    }

    private static void readerAtFirst() {
        int[] due = {255, 0, 0, 0, 0, -1, -1};
        for (int reader = 0; reader <= 3; reader++) {
            SkipRows x = new SkipRows();
            for (int what = 0; what <= 6; what++) {
                Check.due("reader(" + reader + ", " + what + ")", x.reader(reader, what), due[what]);
            }
        }
    }

    /** reader: "when the first one of its holds lapses, NONE without one". */
    private static void readerFirstLapse() {
        SkipRows x = Tables.of("k0*4");
        x.set(0, 9);
        x.take(0, 1);
        x.set(0, 3);
        x.take(0, 1);
        x.set(0, 6);
        x.take(0, 1);
        x.set(0, 1);
        x.take(1, 1);
        Check.due("when the holds lapse", Tables.each(x, 5), "9 3 6 1");
        Check.due("reader(0, 5)", x.reader(0, 5), 3);
        Check.due("reader(1, 5)", x.reader(1, 5), 1);
        Check.due("reader(2, 5)", x.reader(2, 5), SkipRows.NONE);
        x.done(0, 1);
        Check.due("reader(0, 5) behind done", x.reader(0, 5), 6);
        x.giveBack(0, 2);
        Check.due("reader(0, 5) behind giveBack", x.reader(0, 5), 9);
        x.pass(1);
        Check.due("reader(1, 5) behind its end", x.reader(1, 5), SkipRows.NONE);
        x.pass(8);
        Check.due("reader(0, 5) behind its end", x.reader(0, 5), SkipRows.NONE);
    }

    /** reader: "the row that it would take next, NONE if there is none, or it cannot hold more". */
    private static void readerNext() {
        SkipRows x = Tables.of("k0u1;k1u9;k2u5");
        Check.due("reader(0, 6)", x.reader(0, 6), 1);
        x.takes(0, 255 - 2);
        Check.due("reader(0, 6) without the key 1", x.reader(0, 6), 2);
        x.takes(0, 1);
        Check.due("reader(0, 6) of the key 0 alone", x.reader(0, 6), 0);
        x.takes(0, 8);
        Check.due("reader(0, 6) of a key without rows", x.reader(0, 6), SkipRows.NONE);
        x.set(3, 2);
        x.take(1, 1);
        Check.due("reader(1, 6) with one row held of two", x.reader(1, 6), 2);
        x.take(1, 1);
        Check.due("reader(1, 6) with two rows held", x.reader(1, 6), SkipRows.NONE);
        Check.due("reader(2, 6)", x.reader(2, 6), 0);
        x.set(3, 1);
        Check.due("reader(1, 6) with more rows held than it can", x.reader(1, 6), SkipRows.NONE);
        x.take(2, 1);
        Check.due("reader(3, 6) with all rows held", x.reader(3, 6), SkipRows.NONE);
        SkipRows last = Tables.filled(24);
        last.urge(23, 1);
        Check.due("reader(0, 6): the last row", last.reader(0, 6), 23);
        SkipRows blocked = Tables.of("k1u1;k1u9;k2u5");
        blocked.set(2, 1);
        Check.due("reader(0, 6) with a blocked row ahead", blocked.reader(0, 6), 2);
        Check.due("a look skips none", blocked.count(9), 0);
        SkipRows each = Tables.ofEachState();
        each.take(0, 1);
        Check.due("reader(0, 6) with held, done and dead rows", each.reader(0, 6), SkipRows.NONE);
    }

    private static void readerNumbers() {
        SkipRows x = Tables.filled(24);
        x.set(3, 24);
        x.take(2, 24);
        Check.due("rows that it holds", x.reader(2, 1), 24);
        for (int row = 0; row < 8; row++) {
            x.done(2, row);
            x.giveBack(2, row + 8);
        }
        x.pass(5);
        Check.due("rows that it holds", x.reader(2, 1), 0);
        Check.due("rows that it did", x.reader(2, 2), 8);
        Check.due("rows that it gave back", x.reader(2, 3), 8);
        Check.due("its holds that ended by time", x.reader(2, 4), 8);
        for (int what = 1; what <= 4; what++) {
            for (int other : new int[] {0, 1, 3}) {
                Check.due("reader(" + other + ", " + what + ")", x.reader(other, what), 0);
            }
        }
        x.sweep();
        Check.due("rows that it did, also those that were swept", x.reader(2, 2), 8);
    }

    /** reader: "if what is not 0 to 6", "if there is no such reader". */
    private static void readerWhat() {
        SkipRows x = Tables.of("k0");
        Check.badArgument(x, "reader(3, -1)", () -> x.reader(3, -1));
        Check.badArgument(x, "reader(3, 7)", () -> x.reader(3, 7));
        Check.outOfBounds(x, "reader(-1, 0)", () -> x.reader(-1, 0));
        Check.outOfBounds(x, "reader(4, 0)", () -> x.reader(4, 0));
    }

    /** group: "0 to 9, or NONE: of all urgencies". */
    private static void groupEdges() {
        SkipRows x = new SkipRows();
        for (int what = 0; what <= 3; what++) {
            Check.due("group(0, NONE, " + what + ") of no rows", x.group(0, SkipRows.NONE, what), 0);
            Check.due("group(7, 9, " + what + ") of no rows", x.group(7, 9, what), 0);
        }
        Tables.put(x, "k0u0;k0u9;k7u0;k7u9;k7u1");
        Check.due("group(0, 0, 0)", x.group(0, 0, 0), 1);
        Check.due("group(0, 9, 0)", x.group(0, 9, 0), 1);
        Check.due("group(7, 0, 0)", x.group(7, 0, 0), 1);
        Check.due("group(7, 9, 0)", x.group(7, 9, 0), 1);
        Check.due("group(7, 8, 0)", x.group(7, 8, 0), 0);
        Check.due("group(6, 9, 0)", x.group(6, 9, 0), 0);
        Check.due("group(0, NONE, 0)", x.group(0, SkipRows.NONE, 0), 2);
        Check.due("group(7, NONE, 0)", x.group(7, SkipRows.NONE, 0), 3);
        x.urge(4, 9);
        Check.due("group(7, 1, 0) behind urge", x.group(7, 1, 0), 0);
        Check.due("group(7, 9, 0) behind urge", x.group(7, 9, 0), 2);
        SkipRows each = Tables.ofEachState();
        int[] urgencies = {0, 7, 8, 9};
        for (int what = 0; what <= 3; what++) {
            Check.due("group(0, NONE, " + what + ")", each.group(0, SkipRows.NONE, what), 1);
            for (int row = 0; row <= 3; row++) {
                Check.due("group of one urgency", each.group(0, urgencies[row], what), row == what ? 1 : 0);
            }
        }
        each.sweep();
        Check.due("done rows, in the table alone", each.group(0, SkipRows.NONE, 2), 0);
    }

    private static void groupOfFullTable() {
        SkipRows x = Tables.filled(24);
        x.set(3, 24);
        x.set(1, 1);
        Check.due("rows that wait", x.group(0, 0, 0), 24);
        x.take(3, 24);
        Check.due("rows that wait", x.group(0, 0, 0), 0);
        Check.due("rows that are held", x.group(0, 0, 1), 24);
        x.done(3, 0);
        x.done(3, 23);
        Check.due("rows that are done", x.group(0, 0, 2), 2);
        x.pass(5);
        Check.due("rows that are dead", x.group(0, 0, 3), 22);
        Check.due("rows that are dead, of all urgencies", x.group(0, SkipRows.NONE, 3), 22);
    }

    /** group: "if an argument is out of range". */
    private static void groupRanges() {
        SkipRows x = Tables.ofEachState();
        Check.badArgument(x, "group(-1, 0, 0)", () -> x.group(-1, 0, 0));
        Check.badArgument(x, "group(8, 0, 0)", () -> x.group(8, 0, 0));
        Check.badArgument(x, "group(-1, NONE, 0)", () -> x.group(-1, SkipRows.NONE, 0));
        Check.badArgument(x, "group(8, NONE, 0)", () -> x.group(8, SkipRows.NONE, 0));
        Check.badArgument(x, "group(0, -2, 0)", () -> x.group(0, -2, 0));
        Check.badArgument(x, "group(0, 10, 0)", () -> x.group(0, 10, 0));
        Check.badArgument(x, "group(0, 0, -1)", () -> x.group(0, 0, -1));
        Check.badArgument(x, "group(0, 0, 4)", () -> x.group(0, 0, 4));
        Check.badArgument(x, "group(0, NONE, 4)", () -> x.group(0, SkipRows.NONE, 4));
    }

    private static void counts(SkipRows x, String due) {
        StringBuilder all = new StringBuilder();
        for (int what = 0; what <= 12; what++) {
            all.append(what == 0 ? "" : " ").append(x.count(what));
        }
        Check.due("count(0) to count(12)", all.toString(), due);
    }

    private static void countOfEmptyAndFull() {
        counts(new SkipRows(), "0 0 0 0 0 0 0 0 0 0 0 -1 0");
        SkipRows x = Tables.filled(24);
        counts(x, "0 24 24 0 0 0 24 0 0 0 1 0 6");
        x.set(3, 24);
        x.set(2, 1);
        counts(x, "0 24 24 0 0 0 24 0 23 0 1 0 6");
        x.set(2, 0);
        x.take(0, 24);
        counts(x, "0 24 0 24 0 0 24 0 0 0 0 -1 6");
        x.done(0, 0);
        x.set(1, 1);
        x.pass(5);
        counts(x, "5 24 0 0 1 23 24 1 0 0 0 -1 6");
        x.sweep();
        counts(x, "5 23 0 0 0 23 24 1 0 0 0 -1 6");
    }

    /** count: "rows that were put so far", "rows that were done so far". */
    private static void countSoFar() {
        SkipRows x = Tables.of("k0*4");
        x.take(0, 4);
        x.done(0, 0);
        x.done(0, 3);
        x.sweep();
        x.put(1, 1);
        Check.due("rows that were put so far", x.count(6), 5);
        Check.due("rows that were done so far", x.count(7), 2);
        Check.due("rows in the table", x.count(1), 3);
        x.undo();
        x.undo();
        x.undo();
        Check.due("rows that were put so far, behind undo()", x.count(6), 4);
        Check.due("rows that were done so far, behind undo()", x.count(7), 1);
    }

    /** count: "rows that are blocked, of those that wait". */
    private static void countBlocked() {
        SkipRows x = Tables.of("k1u1;k1u9;k1u5;k2;k3*2");
        x.take(0, 1);
        Check.due("blocked, with the setting 2 as 0", x.count(8), 0);
        x.set(2, 1);
        Check.due("blocked rows", Tables.each(x, 8), "0 1 1 0 0 1");
        Check.due("of those that wait", x.count(8), 2);
    }

    /** count: "skips so far, of all rows, also of those that were swept". */
    private static void countSkips() {
        SkipRows x = Tables.of("k0*2");
        x.take(0, 2);
        x.take(1, 1);
        Check.due("skips", x.count(9), 2);
        x.done(0, 0);
        x.done(0, 1);
        x.sweep();
        Check.due("skips of rows that were swept", x.count(9), 2);
        x.put(0, 0);
        Check.due("skips of a new row", x.row(0, 7), 0);
        x.undo();
        x.undo();
        x.undo();
        x.undo();
        x.undo();
        Check.due("skips behind undo()", x.count(9), 0);
    }

    /** count: "unlike pairs of a key and an urgency among the rows that wait". */
    private static void countPairs() {
        Check.due("pairs of no rows", new SkipRows().count(10), 0);
        Check.due("pairs of one row", Tables.of("k0").count(10), 1);
        Check.due("pairs of alike rows", Tables.of("k3u3*9").count(10), 1);
        Check.due("pairs of one key", Tables.of("k3u3;k3u4").count(10), 2);
        Check.due("pairs of one urgency", Tables.of("k3u3;k4u3").count(10), 2);
        Check.due("pairs the other way round", Tables.of("k1u2;k2u1").count(10), 2);
        Check.due("pairs with others between", Tables.of("k1u2;k2u1;k1u2;k2u1").count(10), 2);
        Check.due("pairs of the least and the greatest", Tables.of("k0u0;k0u9;k7u0;k7u9").count(10), 4);
        SkipRows x = new SkipRows();
        for (int row = 0; row < 24; row++) {
            x.put(row % 8, row / 8);
        }
        Check.due("pairs of 24 unlike rows", x.count(10), 24);
        x.take(0, 1);
        Check.due("pairs with one row held", x.count(10), 23);
        x.done(0, 16);
        Check.due("pairs with one row done", x.count(10), 23);
        SkipRows alike = Tables.of("k3u3*3");
        alike.take(0, 2);
        Check.due("pairs with two rows held ahead of one alike", alike.count(10), 1);
        alike.done(0, 0);
        Check.due("pairs with one of them done", alike.count(10), 1);
        SkipRows each = Tables.ofEachState();
        Check.due("pairs with held, done and dead rows", each.count(10), 1);
        each.urge(0, 7);
        Check.due("pairs with a held row of the same pair", each.count(10), 1);
    }

    /** count: "the row that waits and was put first, NONE if none waits". */
    private static void countFirstWaiting() {
        SkipRows x = Tables.of("k0u9;k0u8;k0u0");
        Check.due("the first row that waits", x.count(11), 0);
        x.take(0, 1);
        Check.due("with the row 0 held", x.count(11), 1);
        x.done(0, 0);
        Check.due("with the row 0 done", x.count(11), 1);
        x.sweep();
        Check.due("with it swept", x.count(11), 0);
        x.take(0, 1);
        Check.due("the last row", x.count(11), 1);
        x.take(0, 1);
        Check.due("with none", x.count(11), SkipRows.NONE);
        x.giveBack(0, 1);
        Check.due("with one given back", x.count(11), 1);
        x.pass(5);
        Check.due("with one whose hold lapsed", x.count(11), 0);
        SkipRows full = Tables.filled(24);
        full.set(3, 24);
        full.take(0, 23);
        Check.due("the last of 24 rows", full.count(11), 23);
        full.take(0, 1);
        Check.due("none of 24 rows", full.count(11), SkipRows.NONE);
    }

    private static void countSavedStates() {
        SkipRows x = new SkipRows();
        for (int call = 0; call <= 8; call++) {
            Check.due("saved states after " + call, x.count(12), Math.min(call, 6));
            x.sweep();
        }
        for (int left = 5; left >= 0; left--) {
            x.undo();
            Check.due("saved states", x.count(12), left);
        }
    }

    /** count: "if what is not 0 to 12". */
    private static void countWhat() {
        SkipRows x = Tables.ofEachState();
        Check.badArgument(x, "count(-1)", () -> x.count(-1));
        Check.badArgument(x, "count(13)", () -> x.count(13));
        counts(x, "5 4 1 1 1 1 4 1 0 0 1 0 6");
    }

    /** "If several exceptions apply, the one that is named first in the throws clause is thrown." */
    private static void whichException() {
        SkipRows x = Tables.ofEachState();
        Check.outOfBounds(x, "row(4, 11)", () -> x.row(4, 11));
        Check.outOfBounds(x, "row(-1, -1)", () -> x.row(-1, -1));
        Check.outOfBounds(x, "reader(4, 7)", () -> x.reader(4, 7));
        Check.outOfBounds(x, "reader(-1, -1)", () -> x.reader(-1, -1));
        Check.badArgument(x, "group(8, 10, 4)", () -> x.group(8, 10, 4));
    }
}
