/** Each sentence on what would be that names an edge: promises 23 to 27. */
public final class WouldBeEdgesTest {
    public static void main(String[] args) {
        ifTakenOfNothing();
        ifTakenAsMask();
        ifTakenAsMany();
        ifTakenRanges();
        ifPassedRanges();
        ifPassedAtTheEnd();
        ifPassedDead();
        ifPassedBeyondTheGreatestTime();
        freestOfNobody();
        freestOfSeveral();
        freestWith24();
        fairnessWithoutRows();
        fairnessOfRowsThatWait();
        fairnessIsADivision();
        digestStart();
        lastOf512Calls();
        digestOfScenes();
        digestTellsApart();
        nothingIsChanged();
        Check.end("WouldBeEdgesTest");
    }

    private static void taken(SkipRows x, int reader, int most, int rows, int mask, int skips) {
        String call = "ifTaken(" + reader + ", " + most + ", ";
        Check.due(call + "0)", x.ifTaken(reader, most, 0), rows);
        Check.due(call + "1)", x.ifTaken(reader, most, 1), mask);
        Check.due(call + "2)", x.ifTaken(reader, most, 2), skips);
    }

    private static void ifTakenOfNothing() {
        for (int reader = 0; reader <= 3; reader++) {
            taken(new SkipRows(), reader, 1, 0, 0, 0);
            taken(new SkipRows(), reader, 24, 0, 0, 0);
        }
        SkipRows x = Tables.filled(24);
        x.set(3, 24);
        x.take(0, 24);
        taken(x, 0, 24, 0, 0, 0);
        taken(x, 1, 24, 0, 0, 24);
        x.set(3, 1);
        taken(x, 0, 24, 0, 0, 0);
        SkipRows each = Tables.ofEachState();
        taken(each, 2, 24, 1, 1, 1);
        each.takes(2, 0);
        taken(each, 2, 24, 0, 0, 2);
    }

    /** ifTaken: "their numbers, as a mask (the bit r for the row r)". */
    private static void ifTakenAsMask() {
        for (int row = 0; row < 24; row++) {
            SkipRows x = Tables.filled(24);
            x.urge(row, 1);
            taken(x, 3, 1, 1, 1 << row, 0);
        }
        SkipRows x = Tables.filled(24);
        taken(x, 0, 24, 4, 15, 0);
        x.set(3, 24);
        taken(x, 0, 1, 1, 1, 0);
        taken(x, 0, 2, 2, 3, 0);
        taken(x, 0, 23, 23, (1 << 23) - 1, 0);
        taken(x, 0, 24, 24, (1 << 24) - 1, 0);
        x.set(2, 1);
        taken(x, 0, 24, 1, 1, 23);
        x.take(0, 1);
        x.done(0, 0);
        x.sweep();
        taken(x, 0, 24, 1, 1, 22);
    }

    /** ifTaken: "1 to 24, as for take()": what it tells is what take() does then. */
    private static void ifTakenAsMany() {
        for (int canHold : new int[] {1, 2, 3, 24}) {
            for (int most : new int[] {1, 2, 3, 23, 24}) {
                SkipRows x = Tables.of("k0u9;k1u8;k0u7;k1u6;k0u5;k1u4");
                x.takes(0, 2);
                x.set(3, canHold);
                int rows = Math.min(3, Math.min(canHold, most));
                int[] masks = {0, 2, 2 + 8, 2 + 8 + 32};
                taken(x, 0, most, rows, masks[rows], rows);
                Check.due("take(0, " + most + ")", x.take(0, most), rows);
                Check.due("skips", x.count(9), rows);
            }
        }
    }

    /** ifTaken: "if most or what is out of range", "if there is no such reader". */
    private static void ifTakenRanges() {
        SkipRows x = Tables.of("k0");
        Check.badArgument(x, "ifTaken(0, 0, 0)", () -> x.ifTaken(0, 0, 0));
        Check.badArgument(x, "ifTaken(0, 25, 0)", () -> x.ifTaken(0, 25, 0));
        Check.badArgument(x, "ifTaken(0, 1, -1)", () -> x.ifTaken(0, 1, -1));
        Check.badArgument(x, "ifTaken(0, 1, 3)", () -> x.ifTaken(0, 1, 3));
        Check.outOfBounds(x, "ifTaken(-1, 1, 0)", () -> x.ifTaken(-1, 1, 0));
        Check.outOfBounds(x, "ifTaken(4, 1, 0)", () -> x.ifTaken(4, 1, 0));
        Check.outOfBounds(x, "ifTaken(4, 0, 0)", () -> x.ifTaken(4, 0, 0));
        Check.outOfBounds(x, "ifTaken(-1, 25, 3)", () -> x.ifTaken(-1, 25, 3));
    }

    /** ifPassed: "0 to 200", "if units or what is out of range". */
    private static void ifPassedRanges() {
        SkipRows x = Tables.ofEachState();
        Check.due("ifPassed(0, 0)", x.ifPassed(0, 0), 0);
        Check.due("ifPassed(0, 1)", x.ifPassed(0, 1), 1);
        Check.due("ifPassed(200, 0)", x.ifPassed(200, 0), 1);
        Check.due("ifPassed(200, 1)", x.ifPassed(200, 1), 2);
        Check.badArgument(x, "ifPassed(-1, 0)", () -> x.ifPassed(-1, 0));
        Check.badArgument(x, "ifPassed(201, 0)", () -> x.ifPassed(201, 0));
        Check.badArgument(x, "ifPassed(0, -1)", () -> x.ifPassed(0, -1));
        Check.badArgument(x, "ifPassed(0, 2)", () -> x.ifPassed(0, 2));
        SkipRows empty = new SkipRows();
        Check.due("ifPassed(200, 0) of no rows", empty.ifPassed(200, 0), 0);
        Check.due("ifPassed(200, 1) of no rows", empty.ifPassed(200, 1), 0);
    }

    /** ifPassed: "how many holds would end in it", just before, at and just behind their ends. */
    private static void ifPassedAtTheEnd() {
        for (int lasts : new int[] {1, 2, 98, 99}) {
            SkipRows x = Tables.filled(24);
            x.set(3, 24);
            x.set(0, lasts);
            x.pass(7);
            x.take(0, 24);
            Check.due("ifPassed just before", x.ifPassed(lasts - 1, 0), 0);
            Check.due("ifPassed at the end", x.ifPassed(lasts, 0), 24);
            Check.due("ifPassed just behind", x.ifPassed(lasts + 1, 0), 24);
            Check.due("pass as told", x.pass(lasts), 24);
            Check.due("ifPassed of what ended", x.ifPassed(200, 0), 0);
        }
    }

    /** ifPassed: "how many rows would be dead then": those that are dead now are dead then, too. */
    private static void ifPassedDead() {
        SkipRows x = Tables.of("k0u9;k1u8;k2u7");
        x.set(1, 2);
        x.take(0, 1);
        x.pass(5);
        x.take(0, 2);
        Check.due("tries", Tables.each(x, 6), "1 0 0");
        Check.due("ifPassed(4, 1)", x.ifPassed(4, 1), 0);
        Check.due("ifPassed(5, 1)", x.ifPassed(5, 1), 1);
        x.set(1, 1);
        Check.due("ifPassed(5, 1) with one try", x.ifPassed(5, 1), 2);
        x.set(1, 3);
        Check.due("ifPassed(5, 1) with three tries", x.ifPassed(5, 1), 0);
        x.set(1, 2);
        x.pass(5);
        Check.due("states", Tables.each(x, 3), "3 0 0");
        Check.due("ifPassed(0, 1)", x.ifPassed(0, 1), 1);
        Check.due("ifPassed(200, 1)", x.ifPassed(200, 1), 1);
        x.take(1, 2);
        Check.due("ifPassed(5, 1) with one more to die", x.ifPassed(5, 1), 2);
        x.done(1, 1);
        Check.due("ifPassed(5, 1) with it done", x.ifPassed(5, 1), 1);
    }

    /** ifPassed: "the limit of 9999 does not matter". */
    private static void ifPassedBeyondTheGreatestTime() {
        SkipRows x = Tables.of("k0*3");
        Tables.passAll(x, 9999);
        x.set(1, 1);
        x.set(0, 99);
        x.take(0, 2);
        Check.due("ifPassed(98, 0) at 9999", x.ifPassed(98, 0), 0);
        Check.due("ifPassed(99, 0) at 9999", x.ifPassed(99, 0), 2);
        Check.due("ifPassed(200, 0) at 9999", x.ifPassed(200, 0), 2);
        Check.due("ifPassed(200, 1) at 9999", x.ifPassed(200, 1), 2);
        Check.due("ifPassed(1, 0) at 9999", x.ifPassed(1, 0), 0);
    }

    /** freest: "NONE if nobody would take one". */
    private static void freestOfNobody() {
        Check.due("freest() of no rows", new SkipRows().freest(), SkipRows.NONE);
        SkipRows x = Tables.of("k3");
        for (int reader = 0; reader <= 3; reader++) {
            Check.due("freest()", x.freest(), reader);
            x.takes(reader, 255 - 8);
        }
        Check.due("freest() with no reader of the key", x.freest(), SkipRows.NONE);
        SkipRows held = Tables.of("k0*4");
        held.set(3, 1);
        for (int reader = 0; reader <= 3; reader++) {
            held.take(reader, 1);
        }
        held.put(0, 0);
        Check.due("freest() if nobody can hold more", held.freest(), SkipRows.NONE);
        held.done(2, 2);
        Check.due("freest() if one can", held.freest(), 2);
        SkipRows each = Tables.ofEachState();
        each.take(0, 1);
        Check.due("freest() with held, done and dead rows", each.freest(), SkipRows.NONE);
    }

    /** freest: "of several the lowest one". */
    private static void freestOfSeveral() {
        SkipRows x = Tables.of("k0;k1;k2;k3");
        Check.due("freest() of four alike", x.freest(), 0);
        x.takes(0, 1);
        Check.due("freest() of three alike", x.freest(), 1);
        x.takes(1, 3);
        x.takes(2, 7);
        Check.due("freest(), the last one takes most", x.freest(), 3);
        x.takes(3, 3);
        Check.due("freest(), the third one takes most", x.freest(), 2);
        x.takes(2, 3);
        Check.due("freest(), three take two", x.freest(), 1);
        x.takes(0, 12);
        Check.due("freest(), all take two", x.freest(), 0);
    }

    /** freest: "by take() with 24". */
    private static void freestWith24() {
        SkipRows x = Tables.of("k0*9;k1*9;k2*5;k3");
        x.set(3, 24);
        x.takes(0, 1);
        x.takes(1, 3);
        x.takes(2, 7);
        Check.due("freest(): 9, 18, 23 and 24 rows", x.freest(), 3);
        x.takes(3, 3 + 8);
        Check.due("freest(): 9, 18, 23 and 19 rows", x.freest(), 2);
        x.set(3, 18);
        Check.due("freest(): 9, 18, 18 and 18 rows", x.freest(), 1);
        x.set(3, 9);
        Check.due("freest(): 9 rows each", x.freest(), 0);
        x.take(0, 1);
        Check.due("freest(): 8, 9, 9 and 9 rows", x.freest(), 1);
    }

    /** fairness: "1.0 if none waits". */
    private static void fairnessWithoutRows() {
        Check.due("fairness() of no rows", new SkipRows().fairness(), 1.0);
        SkipRows x = Tables.of("k0u9;k0u8;k0u7");
        x.takes(1, 0);
        x.take(1, 1);
        Check.due("fairness()", x.fairness(), 0.5);
        x.set(1, 1);
        x.take(0, 1);
        x.pass(5);
        x.take(0, 2);
        x.done(0, 1);
        Check.due("states", Tables.each(x, 3), "3 2 1");
        Check.due("skips", Tables.each(x, 7), "1 1 1");
        Check.due("fairness() with dead, done and held rows alone", x.fairness(), 1.0);
    }

    /** fairness: "the greatest number of skips of a row that waits". */
    private static void fairnessOfRowsThatWait() {
        SkipRows x = Tables.of("k0u9;k1u8;k2u7");
        x.takes(1, 2);
        x.takes(2, 4);
        x.take(1, 1);
        x.giveBack(1, 1);
        x.take(2, 1);
        x.giveBack(2, 2);
        Check.due("skips", Tables.each(x, 7), "2 1 0");
        Check.due("fairness()", x.fairness(), 1.0 / 3.0);
        x.take(0, 1);
        Check.due("fairness() with the row 0 held", x.fairness(), 0.5);
        x.take(0, 1);
        Check.due("skips", Tables.each(x, 7), "3 1 0");
        Check.due("fairness() with the rows 0 and 1 held", x.fairness(), 1.0);
        x.giveBack(0, 0);
        Check.due("fairness() with the row 0 given back", x.fairness(), 0.25);
    }

    /** fairness: "1.0 divided by a sum: 1.0 and the greatest number of skips". */
    private static void fairnessIsADivision() {
        SkipRows x = Tables.of("k0");
        x.takes(0, 0);
        for (int skips = 0; skips <= 240; skips++) {
            Check.due("fairness() with " + skips, x.fairness(), 1.0 / (1.0 + (double) skips));
            x.take(0, 1);
        }
    }

    /** digest: "The hash starts at 2683", and the list of values, told here for two states by hand. */
    private static void digestStart() {
        long[] counts = {0, 0, 0, 0, 0, 0, 0, 0, 0, 0, 0, -1, 0};
        long[] reader = {255, 0, 0, 0, 0, -1, -1, 0, 0, 0};
        long hash = with(with(2683, counts), 5, 3, 0, 4);
        for (int i = 0; i < 4; i++) {
            hash = with(hash, reader);
        }
        hash = with(hash, new long[8 * 4]);
        hash = with(hash, 0, 0, -1, 0x3ff0000000000000L, 0);
        Check.due("digest() of a new object", new SkipRows().digest(), hash);
    }

    /** "An object is used for at most 512 calls": the last one of them is answered, too. */
    private static void lastOf512Calls() {
        SkipRows x = afterCalls(511);
        Check.due("row(0, 7) as the call 512", x.row(0, 7), 509);
        SkipRows y = afterCalls(511);
        Check.due("fairness() as the call 512", y.fairness(), 1.0 / 510.0);
        long[] counts = {0, 1, 1, 0, 0, 0, 1, 0, 0, 509, 1, 0, 6};
        long hash = with(with(2683, counts), 5, 3, 0, 4);
        hash = with(hash, 7, 9, 0, 0, -1, -1, 0, 509, 0, 0, 0);
        hash = with(hash, 0, 0, 0, 0, 0, -1, -1, 0, 0, 1);
        for (int reader = 1; reader <= 3; reader++) {
            hash = with(hash, 255, 0, 0, 0, 0, -1, 0, 1, 1, 0);
        }
        hash = with(with(hash, new long[7 * 4]), 1, 0, 0, 0);
        hash = with(hash, 0, 0, 1, Double.doubleToLongBits(1.0 / 510.0), 0);
        Check.due("digest() as the call 512", afterCalls(511).digest(), hash);
    }

    /** One row of the key 7 and the urgency 9, which the reader 0 skips in each call behind the second. */
    private static SkipRows afterCalls(int calls) {
        SkipRows x = new SkipRows();
        x.put(7, 9);
        x.takes(0, 0);
        for (int call = 3; call <= calls; call++) {
            x.take(0, 1);
        }
        return x;
    }

    private static long with(long hash, long... values) {
        long mixed = hash;
        for (long value : values) {
            mixed = 31 * mixed + value;
        }
        return mixed;
    }

    private static void digestOfScenes() {
        for (Scene scene : Scene.values()) {
            SkipRows x = scene.make();
            long got = x.digest();
            Check.due("digest() of " + scene, got, Digest.of(scene.make(), scene.text));
            Check.due("digest() again of " + scene, x.digest(), got);
        }
        SkipRows x = Tables.filled(24);
        x.set(3, 24);
        x.set(2, 1);
        x.set(0, 10);
        x.take(2, 24);
        Check.type(x, Tables.TEXT_OF_60);
        Check.due("digest() of a full table and buffer", x.digest(), Digest.of(x, Tables.TEXT_OF_60));
    }

    /** The digest holds what it would take with 24, not with less, and what would lapse in 10. */
    private static void digestTellsApart() {
        SkipRows x = Tables.filled(24);
        x.set(3, 24);
        Check.due("digest() with 24 rows to take", x.digest(), Digest.of(x, ""));
        for (int lasts = 9; lasts <= 11; lasts++) {
            SkipRows y = Tables.of("k0");
            y.set(0, lasts);
            y.take(0, 1);
            Check.due("digest() with a hold of " + lasts, y.digest(), Digest.of(y, ""));
        }
        SkipRows one = new SkipRows();
        SkipRows other = new SkipRows();
        Check.type(one, "ab");
        Check.type(other, "ba");
        Check.isTrue("the order of characters is in the digest", one.digest() != other.digest());
        other.clearBuffer();
        Check.type(other, "ab");
        Check.due("digest() of the same characters", other.digest(), one.digest());
    }

    /** "what would be; nothing is changed": a take behind these looks does what it does without them. */
    private static void nothingIsChanged() {
        SkipRows x = Tables.of("k0u9;k1u8;k0u7;k1u6;k0u5;k1u4");
        x.takes(0, 2);
        long before = x.digest();
        for (int what = 0; what <= 2; what++) {
            x.ifTaken(3, 24, what);
            x.ifTaken(0, 1, what);
        }
        x.ifPassed(200, 0);
        x.ifPassed(200, 1);
        x.freest();
        x.fairness();
        x.reader(2, 6);
        Check.due("digest()", x.digest(), before);
        Check.due("take(0, 2)", x.take(0, 2), 2);
        x.freest();
        x.ifTaken(1, 24, 2);
        Check.due("skips", Tables.each(x, 7), "1 0 1 0 0 0");
        Check.due("who holds them", Tables.each(x, 4), "-1 0 -1 0 -1 -1");
    }
}
