/** Promises 23 to 27: ifTaken, ifPassed, freest, fairness, digest. */
public final class WouldBeTest {
    public static void main(String[] args) {
        ifTaken();
        ifTakenLooksLikeTake();
        ifTakenRefuses();
        ifPassed();
        ifPassedRefuses();
        freest();
        fairness();
        digestOfNew();
        digestByParts();
        digestOfEachFairness();
        Check.end("WouldBeTest");
    }

    private static void taken(SkipRows x, int reader, int most, int[] want) {
        for (int what = 0; what < 3; what++) {
            String call = "ifTaken(" + reader + ", " + most + ", " + what + ")";
            Check.due(call, x.ifTaken(reader, most, what), want[what]);
        }
    }

    private static void ifTaken() {
        SkipRows x = new SkipRows();
        taken(x, 0, 24, new int[] {0, 0, 0});
        for (int key = 0; key < 6; key++) {
            x.put(key, key);
        }
        taken(x, 0, 1, new int[] {1, 32, 0});
        taken(x, 0, 24, new int[] {4, 32 + 16 + 8 + 4, 0});
        x.takes(1, 1 + 4 + 8);
        taken(x, 1, 2, new int[] {2, 8 + 4, 2});
        taken(x, 1, 24, new int[] {3, 8 + 4 + 1, 3});
        x.take(0, 2);
        taken(x, 1, 24, new int[] {3, 8 + 4 + 1, 3});
        taken(x, 0, 24, new int[] {2, 8 + 4, 2});
        x.set(3, 2);
        taken(x, 0, 24, new int[] {0, 0, 0});
        Check.due("no skips came of it", x.count(9), 0);
        SkipRows full = new SkipRows();
        Check.type(full, "k0*9;k0*9;k0*6");
        full.putAll();
        full.set(3, 24);
        taken(full, 3, 24, new int[] {24, (1 << 24) - 1, 0});
        full.set(2, 1);
        taken(full, 3, 24, new int[] {1, 1, 23});
    }

    private static void ifTakenLooksLikeTake() {
        for (int most = 1; most <= 24; most++) {
            SkipRows x = Tables.of("k1u3*2;k2u9;k1u9;k3*3;k2");
            x.set(2, 1);
            x.takes(2, 2 + 4);
            x.take(0, 1);
            int rows = x.ifTaken(2, most, 0);
            int mask = x.ifTaken(2, most, 1);
            int skips = x.ifTaken(2, most, 2);
            int before = x.count(9);
            Check.due("take(2, " + most + ")", x.take(2, most), rows);
            Check.due("the skips of it", x.count(9) - before, skips);
            int held = 0;
            for (int row = 0; row < x.count(1); row++) {
                held |= x.row(row, 4) == 2 ? 1 << row : 0;
            }
            Check.due("the rows of it", held, mask);
        }
    }

    private static void ifTakenRefuses() {
        SkipRows x = new SkipRows();
        x.put(0, 0);
        int[] badReaders = {-1, 4, Integer.MIN_VALUE, Integer.MAX_VALUE};
        for (int reader : badReaders) {
            Check.outOfBounds(x, "ifTaken(" + reader + ", 1, 0)", () -> x.ifTaken(reader, 1, 0));
            Check.outOfBounds(x, "ifTaken(" + reader + ", 0, 3)", () -> x.ifTaken(reader, 0, 3));
        }
        int[] badMost = {-1, 0, 25, Integer.MIN_VALUE, Integer.MAX_VALUE};
        for (int most : badMost) {
            Check.badArgument(x, "ifTaken(0, " + most + ", 0)", () -> x.ifTaken(0, most, 0));
        }
        int[] badWhat = {-1, 3, Integer.MIN_VALUE, Integer.MAX_VALUE};
        for (int what : badWhat) {
            Check.badArgument(x, "ifTaken(0, 1, " + what + ")", () -> x.ifTaken(0, 1, what));
        }
    }

    private static void ifPassed() {
        SkipRows x = new SkipRows();
        Check.due("ifPassed(200, 0) of nothing", x.ifPassed(200, 0), 0);
        for (int key = 0; key < 4; key++) {
            x.put(key, 0);
        }
        x.set(1, 2);
        x.take(0, 2);
        x.pass(5);
        x.set(0, 10);
        x.take(1, 3);
        x.set(0, 99);
        x.take(2, 1);
        Check.due("ifPassed(0, 0)", x.ifPassed(0, 0), 0);
        Check.due("ifPassed(0, 1)", x.ifPassed(0, 1), 0);
        Check.due("ifPassed(9, 0)", x.ifPassed(9, 0), 0);
        Check.due("ifPassed(10, 0)", x.ifPassed(10, 0), 3);
        Check.due("ifPassed(10, 1)", x.ifPassed(10, 1), 2);
        Check.due("ifPassed(98, 0)", x.ifPassed(98, 0), 3);
        Check.due("ifPassed(99, 0)", x.ifPassed(99, 0), 4);
        Check.due("ifPassed(200, 0)", x.ifPassed(200, 0), 4);
        Check.due("ifPassed(200, 1)", x.ifPassed(200, 1), 2);
        Check.due("the time stays", x.count(0), 5);
        Check.due("the holds stay", x.count(3), 4);
        x.pass(10);
        Check.due("ifPassed(0, 1) with dead rows", x.ifPassed(0, 1), 2);
        Check.due("ifPassed(200, 0) with dead rows", x.ifPassed(200, 0), 1);
        x.set(1, 1);
        Check.due("ifPassed(88, 1)", x.ifPassed(88, 1), 2);
        Check.due("ifPassed(89, 1)", x.ifPassed(89, 1), 3);
    }

    private static void ifPassedRefuses() {
        SkipRows x = new SkipRows();
        x.put(0, 0);
        int[] bad = {-1, 201, Integer.MIN_VALUE, Integer.MAX_VALUE};
        for (int units : bad) {
            Check.badArgument(x, "ifPassed(" + units + ", 0)", () -> x.ifPassed(units, 0));
        }
        int[] badWhat = {-1, 2, Integer.MIN_VALUE, Integer.MAX_VALUE};
        for (int what : badWhat) {
            Check.badArgument(x, "ifPassed(0, " + what + ")", () -> x.ifPassed(0, what));
        }
    }

    private static void freest() {
        SkipRows x = new SkipRows();
        Check.due("freest() of nothing", x.freest(), -1);
        Check.type(x, "k1*2;k2*3");
        x.putAll();
        Check.due("freest(): of several the lowest one", x.freest(), 0);
        x.takes(0, 0);
        x.takes(1, 2);
        Check.due("freest() with most keys", x.freest(), 2);
        x.take(2, 1);
        x.take(2, 1);
        Check.due("freest(), for it can hold no more than two more", x.freest(), 3);
        x.takes(3, 1);
        Check.due("freest() after a change of keys", x.freest(), 2);
        x.takes(2, 255 - 4);
        Check.due("freest() with nobody", x.freest(), -1);
        x.takes(3, 4);
        Check.due("freest(), the last one", x.freest(), 3);
        x.set(3, 1);
        x.takes(0, 4);
        Check.due("freest() of one row each", x.freest(), 0);
        Check.due("no skips came of it but that of a take", x.count(9), 1);
    }

    private static void fairness() {
        SkipRows x = new SkipRows();
        Check.due("fairness() of nothing", x.fairness(), 1.0);
        x.put(0, 9);
        x.put(1, 0);
        Check.due("fairness() without skips", x.fairness(), 1.0);
        x.takes(0, 2);
        for (int skips = 1; skips <= 60; skips++) {
            x.take(0, 1);
            x.giveBack(0, 1);
            Check.due("skips of the row 0", x.row(0, 7), skips);
            Check.due("fairness()", x.fairness(), 1.0 / (1.0 + skips));
        }
        x.take(1, 1);
        Check.due("fairness(): skips of a held row do not count", x.fairness(), 1.0);
        x.take(1, 1);
        Check.due("fairness() if no row waits", x.fairness(), 1.0);
    }

    private static void digestOfNew() {
        SkipRows x = new SkipRows();
        digestFits(x, "");
        x.append('k');
        digestFits(x, "k");
        Check.isTrue("the buffer is in the digest", x.digest() != new SkipRows().digest());
        Check.due("digest() twice", x.digest(), x.digest());
    }

    private static void digestByParts() {
        digestFits(Tables.of("k3u5*5;k3u9*2;k2u5;k0;k7u1"), "");
        digestFits(taken(), "");
        for (int lasts = 9; lasts <= 11; lasts++) {
            SkipRows x = taken();
            x.set(0, lasts);
            x.renew(1);
            digestFits(x, "");
        }
        SkipRows x = taken();
        x.pass(11);
        x.take(2, 4);
        x.done(2, 1);
        Check.type(x, "~!k");
        digestFits(x, "~!k");
        x.sweep();
        digestFits(x, "~!k");
    }

    private static SkipRows taken() {
        SkipRows x = Tables.of("k3u5*5;k3u9*2;k2u5;k0;k7u1");
        x.set(1, 1);
        x.set(2, 1);
        x.takes(1, 77);
        x.take(1, 3);
        return x;
    }

    /** The bits of 1.0 / (1.0 + skips), as Double.doubleToLongBits has them. */
    private static void digestOfEachFairness() {
        for (int skips = 1; skips <= 400; skips++) {
            SkipRows x = Tables.of("k0");
            x.takes(0, 0);
            for (int i = 0; i < skips; i++) {
                x.take(0, 1);
            }
            Check.due("skips of the row 0", x.row(0, 7), skips);
            digestFits(x, "");
        }
    }

    private static void digestFits(SkipRows x, String buffer) {
        Check.due("digest()", x.digest(), Digest.of(x, buffer));
    }
}
