/** Long mixed runs of calls, good ones and wrong ones, each held against the Model. */
public final class ModelTest {
    private static final int RUNS = 600;
    // No object promises anything behind 512 calls; a text makes some calls more at the end.
    private static final int CALLS = 490;
    private static final int[] WILD = {Integer.MIN_VALUE, -2, -1, 0, 1, 4, 24, 25, 100, Integer.MAX_VALUE};
    private static final String[] TEXTS = {"k1", "k3u5", "k0*2", "k2u9*3", "k7;", "k1;k1u4", "u", ";", "*", "9", "k"};

    private final SkipRows x = new SkipRows();
    private final Model model = new Model();
    private final int flavour;
    private long seed;
    private int made;

    private ModelTest(int run) {
        seed = 7919L * run + 13;
        flavour = run % 8;
    }

    public static void main(String[] args) {
        for (int run = 0; run < RUNS; run++) {
            new ModelTest(run).calls();
        }
        Check.end("ModelTest");
    }

    private void calls() {
        if (flavour == 5) {
            growOld();
        }
        for (int i = 0; i < CALLS && made < CALLS; i++) {
            call();
            if (i % 16 == 0) {
                same("digest()", real -> real ? x.digest() : model.digest());
            }
        }
    }

    /** Else no run comes near the greatest time. */
    private void growOld() {
        for (int i = 0; i < 100; i++) {
            same("pass(99)", real -> real ? x.pass(99) : model.pass(99));
        }
    }

    /** Numbers that are the same in every run of the tests. */
    private int below(int bound) {
        seed = seed * 6364136223846793005L + 1442695040888963407L;
        return (int) ((seed >>> 33) % bound);
    }

    /** A number from 0 to just below the bound, seldom a wild one. */
    private int some(int bound) {
        int kind = below(40);
        if (kind == 0) {
            return WILD[below(WILD.length)];
        }
        return kind == 1 ? bound : below(bound);
    }

    private int someRow() {
        return some(Math.max(1, model.count(1)));
    }

    private interface Both {
        long of(boolean real);
    }

    private static String answer(Both call, boolean real) {
        try {
            return Long.toString(call.of(real));
        } catch (RuntimeException e) {
            return e.getClass().getName();
        }
    }

    private String same(String what, Both call) {
        made++;
        String got = answer(call, true);
        String want = answer(call, false);
        Check.isTrue(what + " answered " + got + ", the model says " + want, got.equals(want));
        return got;
    }

    private void call() {
        int kind = below(100);
        if (kind < 34) {
            rows(kind);
        } else if (kind < 62) {
            readers(kind);
        } else if (kind < 72) {
            texts(kind);
        } else {
            looks(kind);
        }
    }

    private void rows(int kind) {
        int row = someRow();
        int a = some(8);
        int b = some(10);
        int setting = some(4);
        if (kind < 14) {
            same("put(" + a + ", " + b + ")", real -> real ? x.put(a, b) : model.put(a, b));
        } else if (kind < 20) {
            same("urge(" + row + ", " + b + ")", real -> real ? x.urge(row, b) : model.urge(row, b));
        } else if (kind < 25) {
            same("revive(" + row + ")", real -> real ? x.revive(row) : model.revive(row));
        } else if (kind < 28) {
            same("sweep()", real -> real ? x.sweep() : model.sweep());
        } else {
            int value = some(setting == 0 ? 12 : setting == 2 ? 2 : setting == 1 ? 5 : 25);
            same("set(" + setting + ", " + value + ")", real -> real ? x.set(setting, value) : model.set(setting, value));
        }
    }

    private void readers(int kind) {
        int reader = some(4);
        int row = someRow();
        int keys = flavour < 4 ? 255 - (1 << below(8)) : some(256);
        int most = some(flavour % 2 == 0 ? 4 : 25);
        int units = some(flavour % 3 == 0 ? 100 : 4);
        if (kind < 37) {
            same("takes(" + reader + ", " + keys + ")", real -> real ? x.takes(reader, keys) : model.takes(reader, keys));
        } else if (kind < 46) {
            same("take(" + reader + ", " + most + ")", real -> real ? x.take(reader, most) : model.take(reader, most));
        } else if (kind < 50) {
            int holder = holderOr(row, reader);
            same("done(" + holder + ", " + row + ")", real -> real ? x.done(holder, row) : model.done(holder, row));
        } else if (kind < 54) {
            int holder = holderOr(row, reader);
            same("giveBack(" + holder + ", " + row + ")",
                    real -> real ? x.giveBack(holder, row) : model.giveBack(holder, row));
        } else if (kind < 56) {
            same("renew(" + reader + ")", real -> real ? x.renew(reader) : model.renew(reader));
        } else {
            same("pass(" + units + ")", real -> real ? x.pass(units) : model.pass(units));
        }
    }

    /** Who holds the row, most times, so that many calls are good ones. */
    private int holderOr(int row, int reader) {
        boolean there = row >= 0 && row < model.count(1);
        return there && model.row(row, 4) >= 0 && below(5) > 0 ? model.row(row, 4) : reader;
    }

    private void texts(int kind) {
        if (kind < 68) {
            String text = below(10) == 0 ? "" + (char) (30 + below(100)) : TEXTS[below(TEXTS.length)];
            if (model.firstError() > 0 && below(3) > 0) {
                text = ";" + text;
            }
            for (int i = 0; i < text.length(); i++) {
                int code = text.charAt(i);
                same("append(" + code + ")", real -> real ? x.append(code) : model.append(code));
            }
            same("firstError()", real -> real ? x.firstError() : model.firstError());
        } else if (kind < 69) {
            same("clearBuffer()", real -> real ? x.clearBuffer() : model.clearBuffer());
        } else {
            String got = same("putAll()", real -> real ? x.putAll() : model.putAll());
            if (got.startsWith("java") && below(2) == 0) {
                same("clearBuffer()", real -> real ? x.clearBuffer() : model.clearBuffer());
            }
        }
    }

    private void looks(int kind) {
        int reader = some(4);
        int row = someRow();
        int key = some(8);
        int urgency = below(4) == 0 ? SkipRows.NONE : some(10);
        int most = some(25);
        int units = some(201);
        int what = some(kind < 78 ? 11 : kind < 83 ? 7 : kind < 86 ? 4 : kind < 90 ? 13 : kind < 95 ? 3 : 2);
        if (kind < 78) {
            same("row(" + row + ", " + what + ")", real -> real ? x.row(row, what) : model.row(row, what));
        } else if (kind < 83) {
            same("reader(" + reader + ", " + what + ")", real -> real ? x.reader(reader, what) : model.reader(reader, what));
        } else if (kind < 86) {
            same("group(" + key + ", " + urgency + ", " + what + ")",
                    real -> real ? x.group(key, urgency, what) : model.group(key, urgency, what));
        } else if (kind < 90) {
            same("count(" + what + ")", real -> real ? x.count(what) : model.count(what));
        } else if (kind < 92) {
            same("ifTaken(" + reader + ", " + most + ", " + what + ")",
                    real -> real ? x.ifTaken(reader, most, what) : model.ifTaken(reader, most, what));
        } else if (kind < 95) {
            same("setting(" + reader + ")", real -> real ? x.setting(reader) : model.setting(reader));
        } else if (kind < 97) {
            same("ifPassed(" + units + ", " + what + ")",
                    real -> real ? x.ifPassed(units, what) : model.ifPassed(units, what));
        } else if (kind < 98) {
            same("freest()", real -> real ? x.freest() : model.freest());
            same("fairness()", real -> Double.doubleToLongBits(real ? x.fairness() : model.fairness()));
        } else {
            same("undo()", real -> real ? x.undo() : model.undo());
        }
    }
}
