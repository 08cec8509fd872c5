/** Each sentence on readers, holds and time that names an edge: Readers, holds, promises 7 to 12. */
public final class ReaderEdgesTest {
    public static void main(String[] args) {
        fourReadersTakeAllKeys();
        masks();
        whatIsHeldStays();
        blockedOrNot();
        looksAsLongAsItMayTakeMore();
        looksToTheEnd();
        oneSkipALook();
        rowsThatAreNotLookedAt();
        blockedByWhatIsTakenJustNow();
        takenInOrder();
        mostAndRoom();
        fullTable();
        holdLapses();
        renewEdges();
        renewCounts();
        giveBackEdges();
        doneEdges();
        whoHolds();
        passEdges();
        holdsThatEndInOnePass();
        triesEdges();
        triesAndTheirSetting();
        greatestTime();
        whichException();
        Check.end("ReaderEdgesTest");
    }

    /** "There are 4 readers, numbered from 0. Each has a set of keys that it takes, at first all." */
    private static void fourReadersTakeAllKeys() {
        for (int reader = 0; reader <= 3; reader++) {
            SkipRows x = Tables.of("k0;k1;k2;k3;k4;k5;k6;k7");
            x.set(3, 8);
            Check.due("take(" + reader + ", 24)", x.take(reader, 24), 8);
            Check.due("skips", x.count(9), 0);
        }
        SkipRows x = Tables.of("k0");
        for (int none : new int[] {-1, 4}) {
            Check.outOfBounds(x, "takes(" + none + ", 0)", () -> x.takes(none, 0));
            Check.outOfBounds(x, "take(" + none + ", 1)", () -> x.take(none, 1));
            Check.outOfBounds(x, "done(" + none + ", 0)", () -> x.done(none, 0));
            Check.outOfBounds(x, "giveBack(" + none + ", 0)", () -> x.giveBack(none, 0));
            Check.outOfBounds(x, "renew(" + none + ")", () -> x.renew(none));
        }
    }

    /** takes: "a mask, 0 to 255", "Returns the previous mask." */
    private static void masks() {
        for (int key = 0; key <= 7; key++) {
            SkipRows x = Tables.of("k0;k1;k2;k3;k4;k5;k6;k7");
            x.set(3, 8);
            Check.due("takes of one key", x.takes(1, 1 << key), 255);
            Check.due("take(1, 24)", x.take(1, 24), 1);
            Check.due("who holds the row of the key", x.row(key, 4), 1);
            Check.due("skips of it", x.row(key, 7), 0);
            Check.due("skips", x.count(9), 7);
            Check.due("takes of all but one key", x.takes(2, 255 - (1 << key)), 255);
            Check.due("take(2, 24)", x.take(2, 24), 7);
            Check.due("who holds the row of the key still", x.row(key, 4), 1);
        }
        SkipRows x = Tables.of("k0;k7");
        Check.due("takes(3, 0)", x.takes(3, 0), 255);
        Check.due("take(3, 24) of no key", x.take(3, 24), 0);
        Check.due("skips", Tables.each(x, 7), "1 1");
        Check.due("takes(3, 255)", x.takes(3, 255), 0);
        Check.due("take(3, 24) of all keys", x.take(3, 24), 2);
        Check.due("takes(3, 255) again", x.takes(3, 255), 255);
        Check.badArgument(x, "takes(3, -1)", () -> x.takes(3, -1));
        Check.badArgument(x, "takes(3, 256)", () -> x.takes(3, 256));
    }

    /** takes: "what it holds stays": the reader can do all with it. */
    private static void whatIsHeldStays() {
        SkipRows x = Tables.of("k0*3");
        x.take(0, 3);
        x.takes(0, 0);
        Check.due("rows that it holds", x.reader(0, 1), 3);
        x.pass(4);
        Check.due("renew(0)", x.renew(0), 3);
        Check.due("done(0, 0)", x.done(0, 0), 1);
        Check.due("giveBack(0, 1)", x.giveBack(0, 1), 1);
        Check.due("take(0, 1)", x.take(0, 1), 0);
        Check.due("pass(5)", x.pass(5), 1);
    }

    /** "with setting 2 as 1, a row with the same key and a lower mark waits or is held". */
    private static void blockedOrNot() {
        SkipRows x = Tables.ofEachState();
        Check.due("blocked, with the setting 2 as 0", Tables.each(x, 8), "0 0 0 0");
        x.set(2, 1);
        Check.due("behind a row that waits", Tables.each(x, 8), "0 1 0 0");
        Check.due("rows that wait and are blocked", x.count(8), 0);
        x.put(0, 9);
        x.put(1, 9);
        Check.due("another key is not blocked", Tables.each(x, 8), "0 1 0 0 1 0");
        Check.due("rows that wait and are blocked", x.count(8), 1);
        x.take(2, 2);
        Check.due("states", Tables.each(x, 3), "1 1 2 3 0 1");
        Check.due("behind rows that are held", Tables.each(x, 8), "0 1 0 0 1 0");
        x.done(2, 0);
        Check.due("the first one is done", Tables.each(x, 8), "0 0 0 0 1 0");
        x.pass(5);
        Check.due("states", Tables.each(x, 3), "2 3 2 3 0 3");
        Check.due("behind done and dead rows alone", Tables.each(x, 8), "0 0 0 0 0 0");
        x.revive(3);
        Check.due("behind a revived row", Tables.each(x, 8), "0 0 0 0 1 0");
        x.set(2, 0);
        Check.due("with the setting 2 as 0 again", Tables.each(x, 8), "0 0 0 0 0 0");
    }

    /** "in the order for taking, as long as it may take more". */
    private static void looksAsLongAsItMayTakeMore() {
        looks(4, 1, 1, "1 0 0 0 0");
        looks(4, 2, 2, "1 0 1 0 0");
        looks(4, 3, 2, "1 0 1 0 1");
        looks(4, 24, 2, "1 0 1 0 1");
        looks(1, 24, 1, "1 0 0 0 0");
        looks(2, 24, 2, "1 0 1 0 0");
        looks(3, 24, 2, "1 0 1 0 1");
        SkipRows x = ofTwoKeys(2);
        x.take(0, 1);
        Check.due("take(0, 24) with one row held", x.take(0, 24), 1);
        Check.due("skips, also of its own row", Tables.each(x, 7), "2 1 1 0 0");
        Check.due("take(0, 24) with two rows held", x.take(0, 24), 0);
        Check.due("skips", Tables.each(x, 7), "2 1 1 0 0");
    }

    private static void looks(int canHold, int most, int taken, String skips) {
        SkipRows x = ofTwoKeys(canHold);
        Check.due("take(0, " + most + ")", x.take(0, most), taken);
        Check.due("skips of it", Tables.each(x, 7), skips);
    }

    /** The reader 0 takes the rows 1 and 3 alone. */
    private static SkipRows ofTwoKeys(int canHold) {
        SkipRows x = Tables.of("k0u9;k1u8;k0u7;k1u6;k0u5");
        x.takes(0, 2);
        x.set(3, canHold);
        return x;
    }

    private static void looksToTheEnd() {
        SkipRows x = Tables.of("k0*9;k1*9;k2*6");
        x.set(3, 24);
        x.takes(1, 0);
        Check.due("take(1, 1) of no key", x.take(1, 1), 0);
        Check.due("skips of the first row", x.row(0, 7), 1);
        Check.due("skips of the last row", x.row(23, 7), 1);
        Check.due("skips", x.count(9), 24);
        Check.due("take(0, 24)", x.take(0, 24), 24);
        Check.due("skips", x.count(9), 24);
        Check.due("take(0, 24) with 24 rows held", x.take(0, 24), 0);
        Check.due("skips", x.count(9), 24);
        Check.due("take(2, 24) with all rows held by another", x.take(2, 24), 0);
        Check.due("skips", x.count(9), 48);
    }

    /** "the skips of that row become 1 more", if one reason or three apply. */
    private static void oneSkipALook() {
        SkipRows x = Tables.of("k1u0;k1u9");
        x.take(0, 1);
        x.set(2, 1);
        x.takes(2, 0);
        Check.due("the row 1 is held and blocked", x.row(1, 3) + 10 * x.row(1, 8), 11);
        Check.due("take(2, 1)", x.take(2, 1), 0);
        Check.due("skips", Tables.each(x, 7), "1 1");
        Check.due("skips of all", x.count(9), 2);
        Check.due("take(2, 1) again", x.take(2, 1), 0);
        Check.due("skips", Tables.each(x, 7), "2 2");
    }

    /** "it looks at all rows that wait or are held": at no done or dead one. */
    private static void rowsThatAreNotLookedAt() {
        SkipRows x = Tables.ofEachState();
        x.takes(3, 0);
        x.take(3, 24);
        Check.due("skips", Tables.each(x, 7), "1 1 0 0");
        x.takes(3, 255);
        Check.due("take(3, 24)", x.take(3, 24), 1);
        Check.due("states", Tables.each(x, 3), "1 1 2 3");
        Check.due("skips", Tables.each(x, 7), "1 2 0 0");
    }

    /** "one that is blocked (by what is then, so also by rows that this reader took just now)". */
    private static void blockedByWhatIsTakenJustNow() {
        SkipRows x = Tables.of("k1u9;k1u8;k1u9;k2u0;k2u1");
        x.set(2, 1);
        Check.due("take(0, 24)", x.take(0, 24), 2);
        Check.due("states", Tables.each(x, 3), "1 0 0 1 0");
        Check.due("skips", Tables.each(x, 7), "0 1 1 0 1");
        Check.due("take(0, 24) again", x.take(0, 24), 0);
        Check.due("skips", Tables.each(x, 7), "1 2 2 1 2");
        x.done(0, 0);
        x.giveBack(0, 3);
        Check.due("take(1, 1)", x.take(1, 1), 1);
        Check.due("states", Tables.each(x, 3), "2 1 0 0 0");
        Check.due("skips", Tables.each(x, 7), "1 2 3 1 2");
    }

    private static void takenInOrder() {
        SkipRows x = Tables.of("k0u5;k1u6;k2u5;k3u4;k4u6;k5;k6u9");
        x.set(3, 7);
        int[] order = {6, 1, 4, 0, 2, 3, 5};
        for (int row : order) {
            Check.due("the row that it would take next", x.reader(0, 6), row);
            x.take(0, 1);
            Check.due("who holds the row " + row, x.row(row, 4), 0);
        }
        Check.due("the row that it would take next", x.reader(0, 6), SkipRows.NONE);
    }

    /** take: "1 to 24: how many at most (as many as it can hold, if that is less)". */
    private static void mostAndRoom() {
        int[] numbers = {1, 2, 3, 4, 23, 24};
        for (int canHold : numbers) {
            for (int most : numbers) {
                SkipRows x = Tables.of("k0*9;k1*9;k2*6");
                x.set(3, canHold);
                int taken = Math.min(canHold, most);
                Check.due("take(0, " + most + ") with " + canHold, x.take(0, most), taken);
                Check.due("rows that it holds", x.reader(0, 1), taken);
                int more = canHold - taken;
                Check.due("take(0, 24) of the rest", x.take(0, 24), more);
                Check.due("take(0, 24) with no room", x.take(0, 24), 0);
                x.giveBack(0, 0);
                Check.due("take(0, 24) with room for one", x.take(0, 24), 1);
            }
        }
        SkipRows x = Tables.of("k0*9;k1*9;k2*5");
        x.set(3, 24);
        Check.badArgument(x, "take(0, 0)", () -> x.take(0, 0));
        Check.badArgument(x, "take(0, 25)", () -> x.take(0, 25));
        Check.due("take(0, 24) of 23 rows", x.take(0, 24), 23);
        Check.due("take(0, 1) of none", x.take(0, 1), 0);
    }

    private static void fullTable() {
        SkipRows x = Tables.filled(24);
        x.set(3, 24);
        Check.due("take(3, 23)", x.take(3, 23), 23);
        Check.due("who holds the last row", x.row(23, 4), SkipRows.NONE);
        Check.due("take(3, 1)", x.take(3, 1), 1);
        Check.due("who holds the last row", x.row(23, 4), 3);
        Check.due("skips of the last row", x.row(23, 7), 0);
        Check.due("skips", x.count(9), 23);
        Check.due("giveBack(3, 23)", x.giveBack(3, 23), 23);
        Check.due("take(2, 24)", x.take(2, 24), 1);
        Check.due("done(2, 23)", x.done(2, 23), 1);
    }

    /** "until its hold lapses: at the time plus setting 0", that is 1 to 99. */
    private static void holdLapses() {
        int[] lasts = {1, 2, 5, 98, 99};
        for (int units : lasts) {
            SkipRows x = Tables.of("k0");
            x.pass(3);
            x.set(0, units);
            x.take(0, 1);
            Check.due("when its hold lapses", x.row(0, 5), 3 + units);
            if (units > 1) {
                Check.due("pass to just before", x.pass(units - 1), 0);
                Check.due("its state just before", x.row(0, 3), 1);
            }
            Check.due("pass(1)", x.pass(1), 1);
            Check.due("its state then", x.row(0, 3), 0);
            x.take(0, 1);
            Check.due("pass in one", x.pass(units), 1);
            if (units < 99) {
                x.take(0, 1);
                Check.due("pass beyond", x.pass(units + 1), 1);
            }
        }
    }

    /** "A hold can be renewed by its reader: it lapses at the time plus setting 0 then." */
    private static void renewEdges() {
        SkipRows x = Tables.of("k0*2");
        x.take(0, 1);
        x.take(1, 1);
        x.pass(4);
        Check.due("renew(0) just before the end", x.renew(0), 1);
        Check.due("when the holds lapse", Tables.each(x, 5), "9 5");
        Check.due("pass(1)", x.pass(1), 1);
        Check.due("renew(1) just behind the end", x.renew(1), 0);
        Check.due("when the holds lapse", Tables.each(x, 5), "9 -1");
        Check.due("pass(3)", x.pass(3), 0);
        x.set(0, 99);
        Check.due("renew(0)", x.renew(0), 1);
        Check.due("when the holds lapse", Tables.each(x, 5), "107 -1");
        x.set(0, 1);
        Check.due("renew(0) to an end that is nearer", x.renew(0), 1);
        Check.due("when the holds lapse", Tables.each(x, 5), "9 -1");
        Check.due("tries are not changed by renewing", Tables.each(x, 6), "0 1");
        Check.due("pass(1)", x.pass(1), 1);
    }

    /** renew: "Returns how many there are." */
    private static void renewCounts() {
        SkipRows x = Tables.filled(24);
        x.set(3, 24);
        Check.due("renew(3) of none", x.renew(3), 0);
        x.take(3, 1);
        Check.due("renew(3) of one", x.renew(3), 1);
        x.take(3, 24);
        x.pass(1);
        Check.due("renew(3) of 24", x.renew(3), 24);
        Check.due("when the first one lapses", x.row(0, 5), 6);
        Check.due("when the last one lapses", x.row(23, 5), 6);
        Check.due("renew(2) of none", x.renew(2), 0);
        x.done(3, 0);
        x.giveBack(3, 23);
        Check.due("renew(3) of 22", x.renew(3), 22);
        Check.due("the done row", x.row(0, 5), SkipRows.NONE);
        Check.due("the row given back", x.row(23, 5), SkipRows.NONE);
    }

    /** "it waits again (its tries stay)"; "Returns how many rows the reader holds then." */
    private static void giveBackEdges() {
        SkipRows x = Tables.of("k0*4");
        x.take(1, 4);
        x.take(0, 4);
        Check.due("skips", Tables.each(x, 7), "1 1 1 1");
        for (int left = 3; left >= 0; left--) {
            Check.due("giveBack(1, " + left + ")", x.giveBack(1, left), left);
            Check.due("rows that it gave back", x.reader(1, 3), 4 - left);
        }
        Check.due("states", Tables.each(x, 3), "0 0 0 0");
        Check.due("tries that were none stay none", Tables.each(x, 6), "0 0 0 0");
        Check.due("skips stay", Tables.each(x, 7), "1 1 1 1");
        x.take(1, 1);
        x.pass(5);
        x.take(2, 1);
        Check.due("giveBack(2, 0)", x.giveBack(2, 0), 0);
        Check.due("tries stay", Tables.each(x, 6), "1 0 0 0");
        x.set(1, 1);
        x.take(2, 1);
        x.giveBack(2, 0);
        Check.due("no row dies of it", x.row(0, 3), 0);
        Check.due("no hold ended by time in it", x.reader(2, 4), 0);
    }

    /** done: "Returns how many rows the reader did so far." */
    private static void doneEdges() {
        SkipRows x = Tables.filled(24);
        x.set(3, 24);
        x.take(3, 23);
        x.take(0, 1);
        for (int row = 0; row < 23; row++) {
            Check.due("done(3, " + row + ")", x.done(3, row), row + 1);
        }
        Check.due("done(0, 23)", x.done(0, 23), 1);
        Check.due("rows that were done so far", x.count(7), 24);
        x.sweep();
        x.put(1, 1);
        x.take(3, 1);
        Check.due("done(3, 0) of one more, behind sweep()", x.done(3, 0), 24);
        Check.due("undo()", x.undo(), 5);
        Check.due("done(3, 0) behind undo()", x.done(3, 0), 24);
        Check.due("rows that were done so far", x.count(7), 25);
    }

    /** done and giveBack: "if the reader does not hold it", "if there is no such reader or row". */
    private static void whoHolds() {
        SkipRows x = Tables.ofEachState();
        for (int reader = 0; reader < 4; reader++) {
            int by = reader;
            for (int row = 0; row < 4; row++) {
                int its = row;
                if (reader != 1 || row != 1) {
                    Check.badState(x, "done(" + by + ", " + its + ")", () -> x.done(by, its));
                    Check.badState(x, "giveBack(" + by + ", " + its + ")", () -> x.giveBack(by, its));
                }
            }
            Check.outOfBounds(x, "done(" + by + ", -1)", () -> x.done(by, -1));
            Check.outOfBounds(x, "done(" + by + ", 4)", () -> x.done(by, 4));
            Check.outOfBounds(x, "giveBack(" + by + ", -1)", () -> x.giveBack(by, -1));
            Check.outOfBounds(x, "giveBack(" + by + ", 4)", () -> x.giveBack(by, 4));
        }
        Check.due("giveBack(1, 1)", x.giveBack(1, 1), 0);
        Check.badState(x, "giveBack(1, 1) again", () -> x.giveBack(1, 1));
        Check.badState(x, "done(1, 1) of what it gave back", () -> x.done(1, 1));
        x.undo();
        Check.due("done(1, 1)", x.done(1, 1), 2);
        Check.badState(x, "done(1, 1) again", () -> x.done(1, 1));
        SkipRows lapsed = Tables.of("k0");
        lapsed.take(2, 1);
        lapsed.pass(5);
        Check.badState(lapsed, "done of a hold that lapsed", () -> lapsed.done(2, 0));
        Check.badState(lapsed, "giveBack of a hold that lapsed", () -> lapsed.giveBack(2, 0));
        Check.due("renew of a hold that lapsed", lapsed.renew(2), 0);
    }

    /** pass: "1 to 99". */
    private static void passEdges() {
        SkipRows x = Tables.of("k0");
        Check.badArgument(x, "pass(0)", () -> x.pass(0));
        Check.badArgument(x, "pass(-1)", () -> x.pass(-1));
        Check.badArgument(x, "pass(100)", () -> x.pass(100));
        Check.due("pass(1)", x.pass(1), 0);
        Check.due("the time", x.count(0), 1);
        Check.due("pass(99)", x.pass(99), 0);
        Check.due("the time", x.count(0), 100);
        Check.due("undo() of a pass as one call", x.undo(), 2);
        Check.due("the time", x.count(0), 1);
    }

    /** "unit by unit, all holds that lapse at the new time end"; "Returns how many holds end in it." */
    private static void holdsThatEndInOnePass() {
        int[] ended = {0, 0, 0, 1, 1, 2, 2, 4, 4, 4};
        for (int units = 1; units < ended.length; units++) {
            SkipRows x = withHoldsTo357();
            Check.due("ifPassed(" + units + ", 0)", x.ifPassed(units, 0), ended[units]);
            Check.due("pass(" + units + ")", x.pass(units), ended[units]);
            Check.due("rows that are held still", x.count(3), 4 - ended[units]);
        }
        SkipRows x = withHoldsTo357();
        for (int time = 1; time < ended.length; time++) {
            Check.due("pass(1) to " + time, x.pass(1), ended[time] - ended[time - 1]);
        }
        Check.due("tries: a hold ends once", Tables.each(x, 6), "1 1 1 1");
        Check.due("holds of the reader 0 that ended", x.reader(0, 4), 3);
        Check.due("holds of the reader 1 that ended", x.reader(1, 4), 1);
        Check.due("holds of the reader 2 that ended", x.reader(2, 4), 0);
    }

    private static SkipRows withHoldsTo357() {
        SkipRows x = Tables.of("k0*4");
        x.set(0, 7);
        x.take(0, 1);
        x.take(1, 1);
        x.set(0, 3);
        x.take(0, 1);
        x.set(0, 5);
        x.take(0, 1);
        Check.due("when the holds lapse", Tables.each(x, 5), "7 7 3 5");
        return x;
    }

    /** "if they are at least setting 1 then, it is dead; otherwise it waits again". */
    private static void triesEdges() {
        for (int setting = 1; setting <= 9; setting++) {
            SkipRows x = Tables.of("k0");
            x.set(1, setting);
            for (int tries = 1; tries <= setting; tries++) {
                x.take(0, 1);
                int dead = tries < setting ? 0 : 1;
                Check.due("ifPassed(5, 1)", x.ifPassed(5, 1), dead);
                Check.due("pass(5)", x.pass(5), 1);
                Check.due("its tries", x.row(0, 6), tries);
                Check.due("its state with " + tries + " of " + setting, x.row(0, 3), dead * 3);
            }
            Check.due("its holder", x.row(0, 4), SkipRows.NONE);
            Check.due("when its hold lapses", x.row(0, 5), SkipRows.NONE);
            Check.due("holds that ended by time", x.reader(0, 4), setting);
        }
    }

    private static void triesAndTheirSetting() {
        SkipRows x = Tables.of("k0");
        x.set(1, 9);
        for (int tries = 1; tries <= 4; tries++) {
            x.take(0, 1);
            x.pass(5);
        }
        x.set(1, 2);
        Check.due("a row with more tries than the setting waits still", x.row(0, 3), 0);
        Check.due("take(0, 1)", x.take(0, 1), 1);
        x.pass(4);
        Check.due("it is held still", x.row(0, 3), 1);
        x.pass(1);
        Check.due("it is dead then", x.row(0, 3) + 10 * x.row(0, 6), 53);
        x.set(1, 9);
        x.pass(99);
        Check.due("it stays dead with more tries allowed", x.row(0, 3), 3);
        SkipRows now = Tables.of("k0");
        now.set(1, 1);
        now.take(0, 1);
        now.set(1, 2);
        now.pass(5);
        Check.due("the setting at the end of the hold decides", now.row(0, 3), 0);
    }

    /** "if the time would be above 9999". */
    private static void greatestTime() {
        for (int units : new int[] {1, 2, 98, 99}) {
            SkipRows x = Tables.of("k0*2");
            Tables.passAll(x, 9999 - units);
            if (units < 99) {
                Check.badState(x, "pass to 10000", () -> x.pass(units + 1));
                Check.badState(x, "pass(99) beyond 9999", () -> x.pass(99));
            }
            Check.due("pass to 9999", x.pass(units), 0);
            Check.due("the time", x.count(0), 9999);
            Check.badState(x, "pass(1) at 9999", () -> x.pass(1));
            x.set(0, 99);
            x.take(0, 1);
            Check.due("a hold lapses at", x.row(0, 5), 10098);
            Check.badState(x, "pass(1) at 9999 with a hold", () -> x.pass(1));
        }
    }

    /** "If several exceptions apply, the one that is named first in the throws clause is thrown." */
    private static void whichException() {
        SkipRows x = Tables.ofEachState();
        Check.outOfBounds(x, "takes(4, 256)", () -> x.takes(4, 256));
        Check.outOfBounds(x, "takes(-1, -1)", () -> x.takes(-1, -1));
        Check.outOfBounds(x, "take(4, 25)", () -> x.take(4, 25));
        Check.outOfBounds(x, "take(-1, 0)", () -> x.take(-1, 0));
        Check.outOfBounds(x, "done(4, 2) of a done row", () -> x.done(4, 2));
        Check.outOfBounds(x, "done(4, 4)", () -> x.done(4, 4));
        Check.outOfBounds(x, "giveBack(-1, 0) of a row that waits", () -> x.giveBack(-1, 0));
        Check.outOfBounds(x, "giveBack(-1, -1)", () -> x.giveBack(-1, -1));
        Tables.passAll(x, 9994);
        Check.badArgument(x, "pass(0) at 9999", () -> x.pass(0));
        Check.badArgument(x, "pass(100) at 9999", () -> x.pass(100));
        Check.badArgument(x, "pass(MAX) at 9999", () -> x.pass(Integer.MAX_VALUE));
        Check.badState(x, "pass(99) at 9999", () -> x.pass(99));
    }
}
