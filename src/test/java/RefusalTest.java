import java.util.List;
import java.util.Set;
import java.util.TreeSet;
import java.util.regex.Pattern;

/**
 * "A call that throws an exception changes nothing. If several exceptions apply, the one that is named
 * first in the throws clause is thrown." Each call, with arguments at, just below and just above each
 * bound, all mixed, in each Scene: it throws what is due and nothing else; if it throws, or if nothing
 * is to be changed, no later call shows that it was; and if it is undoable, it saves one state, and
 * undo() brings all back. The object is held against another one that the call was not made on.
 */
public final class RefusalTest {
    private static final String ONE = "k[0-7](u[0-9])?(\\*[2-9])?";
    private static final Pattern ROWS = Pattern.compile(ONE + "(;" + ONE + ")*");
    private static final int[] LEAST = {1, 1, 0, 1};
    private static final int[] GREATEST = {99, 9, 1, 24};

    private enum Kind { LOOKS, UNDOABLE, TEXT }

    private interface Call {
        long on(SkipRows x);
    }

    private final Scene scene;
    private final SkipRows sample;
    private final int rows;
    private final int saved;
    private final String untouched;
    private final String untouchedBehindOne;

    private RefusalTest(Scene scene) {
        this.scene = scene;
        sample = scene.make();
        rows = sample.count(1);
        saved = sample.count(12);
        untouched = later(x -> 0);
        untouchedBehindOne = Later.undone(withRoomInHistory());
    }

    public static void main(String[] args) {
        for (Scene scene : Scene.values()) {
            RefusalTest test = new RefusalTest(scene);
            test.rowCalls();
            test.readerCalls();
            test.textCalls();
            test.looks();
            test.looksAtWhatWouldBe();
        }
        Check.end("RefusalTest");
    }

    private void rowCalls() {
        for (int key : around(0, 7)) {
            for (int urgency : around(0, 9)) {
                Class<?> due = due(false, out(key, 0, 7) || out(urgency, 0, 9), rows == 24);
                made(Kind.UNDOABLE, "put(" + key + ", " + urgency + ")", due, x -> x.put(key, urgency));
            }
        }
        for (int row : around(0, rows - 1)) {
            boolean none = out(row, 0, rows - 1);
            int state = none ? 0 : sample.row(row, 3);
            for (int urgency : around(0, 9)) {
                Class<?> due = due(none, out(urgency, 0, 9), state > 1);
                made(Kind.UNDOABLE, "urge(" + row + ", " + urgency + ")", due, x -> x.urge(row, urgency));
            }
            made(Kind.UNDOABLE, "revive(" + row + ")", due(none, false, state != 3), x -> x.revive(row));
        }
        made(Kind.UNDOABLE, "sweep()", null, x -> x.sweep());
        for (int setting : around(0, 3)) {
            boolean none = out(setting, 0, 3);
            int least = none ? 0 : LEAST[setting];
            int greatest = none ? 0 : GREATEST[setting];
            for (int value : around(least, greatest)) {
                Class<?> due = due(none, out(value, least, greatest), false);
                made(Kind.UNDOABLE, "set(" + setting + ", " + value + ")", due, x -> x.set(setting, value));
            }
        }
    }

    private void readerCalls() {
        for (int reader : around(0, 3)) {
            boolean none = out(reader, 0, 3);
            for (int keys : around(0, 255)) {
                Class<?> due = due(none, out(keys, 0, 255), false);
                made(Kind.UNDOABLE, "takes(" + reader + ", " + keys + ")", due, x -> x.takes(reader, keys));
            }
            for (int most : around(1, 24)) {
                Class<?> due = due(none, out(most, 1, 24), false);
                made(Kind.UNDOABLE, "take(" + reader + ", " + most + ")", due, x -> x.take(reader, most));
            }
            for (int row : around(0, rows - 1)) {
                boolean noRow = out(row, 0, rows - 1);
                boolean notHeld = !noRow && sample.row(row, 4) != reader;
                Class<?> due = due(none || noRow, false, notHeld);
                made(Kind.UNDOABLE, "done(" + reader + ", " + row + ")", due, x -> x.done(reader, row));
                made(Kind.UNDOABLE, "giveBack(" + reader + ", " + row + ")", due, x -> x.giveBack(reader, row));
            }
            made(Kind.UNDOABLE, "renew(" + reader + ")", due(none, false, false), x -> x.renew(reader));
        }
        for (int units : around(1, 99)) {
            boolean bad = out(units, 1, 99);
            Class<?> due = due(false, bad, !bad && sample.count(0) + units > 9999);
            made(Kind.UNDOABLE, "pass(" + units + ")", due, x -> x.pass(units));
        }
    }

    private void textCalls() {
        int length = scene.text.length();
        for (int code : around(33, 126)) {
            Class<?> due = due(false, out(code, 33, 126), length == 60);
            made(Kind.TEXT, "append(" + code + ")", due, x -> x.append(code));
        }
        made(Kind.TEXT, "clearBuffer()", null, x -> x.clearBuffer());
        made(Kind.LOOKS, "firstError()", null, x -> x.firstError());
        boolean complete = ROWS.matcher(scene.text).matches();
        Class<?> due = due(false, !complete, complete && rows + named(scene.text) > 24);
        made(Kind.UNDOABLE, "putAll()", due, x -> x.putAll());
        made(Kind.TEXT, "undo()", due(false, false, saved == 0), x -> x.undo());
    }

    private void looks() {
        for (int row : around(0, rows - 1)) {
            for (int what : around(0, 10)) {
                Class<?> due = due(out(row, 0, rows - 1), out(what, 0, 10), false);
                made(Kind.LOOKS, "row(" + row + ", " + what + ")", due, x -> x.row(row, what));
            }
        }
        for (int reader : around(0, 3)) {
            for (int what : around(0, 6)) {
                Class<?> due = due(out(reader, 0, 3), out(what, 0, 6), false);
                made(Kind.LOOKS, "reader(" + reader + ", " + what + ")", due, x -> x.reader(reader, what));
            }
            made(Kind.LOOKS, "setting(" + reader + ")", due(out(reader, 0, 3), false, false), x -> x.setting(reader));
        }
        for (int key : around(0, 7)) {
            for (int urgency : around(SkipRows.NONE, 9)) {
                for (int what : around(0, 3)) {
                    Class<?> due = due(false, out(key, 0, 7) || out(urgency, -1, 9) || out(what, 0, 3), false);
                    made(Kind.LOOKS, "group(" + key + ", " + urgency + ", " + what + ")", due,
                            x -> x.group(key, urgency, what));
                }
            }
        }
        for (int what : around(0, 12)) {
            made(Kind.LOOKS, "count(" + what + ")", due(false, out(what, 0, 12), false), x -> x.count(what));
        }
    }

    private void looksAtWhatWouldBe() {
        for (int reader : around(0, 3)) {
            for (int most : around(1, 24)) {
                for (int what : around(0, 2)) {
                    Class<?> due = due(out(reader, 0, 3), out(most, 1, 24) || out(what, 0, 2), false);
                    made(Kind.LOOKS, "ifTaken(" + reader + ", " + most + ", " + what + ")", due,
                            x -> x.ifTaken(reader, most, what));
                }
            }
        }
        for (int units : around(0, 200)) {
            for (int what : around(0, 1)) {
                Class<?> due = due(false, out(units, 0, 200) || out(what, 0, 1), false);
                made(Kind.LOOKS, "ifPassed(" + units + ", " + what + ")", due, x -> x.ifPassed(units, what));
            }
        }
        made(Kind.LOOKS, "freest()", null, x -> x.freest());
        made(Kind.LOOKS, "fairness()", null, x -> (long) x.fairness());
        made(Kind.LOOKS, "digest()", null, x -> x.digest());
    }

    /** Makes the call on an object of its own, and looks at what it threw and at what it left behind. */
    private void made(Kind kind, String name, Class<?> due, Call call) {
        String what = scene + ": " + name;
        Class<?> thrown = thrownBy(scene.make(), call);
        Check.isTrue(what + " threw " + thrown + ", due is " + due, thrown == due);
        if (due != null || kind == Kind.LOOKS) {
            Check.isTrue(what + " changed something", later(call).equals(untouched));
        } else if (kind == Kind.UNDOABLE && thrown == null) {
            savesOne(what, call);
        }
    }

    private void savesOne(String what, Call call) {
        SkipRows x = scene.make();
        call.on(x);
        Check.due("saved states after " + what, x.count(12), Math.min(saved + 1, 6));
        Check.due("undo() after " + what, x.undo(), Math.min(saved, 5));
        x.clearBuffer();
        Check.type(x, scene.text);
        Check.isTrue(what + " and undo() changed something", Later.undone(x).equals(untouchedBehindOne));
    }

    /** The scene itself; if its history is full, without the oldest state, which one more drops. */
    private SkipRows withRoomInHistory() {
        SkipRows x = scene.make();
        if (saved == 6) {
            x.sweep();
            x.undo();
        }
        return x;
    }

    /** What later calls answer on two objects that the call was made on: one goes back, one goes on. */
    private String later(Call call) {
        SkipRows back = scene.make();
        thrownBy(back, call);
        SkipRows on = scene.make();
        thrownBy(on, call);
        return Later.undone(back) + Later.goneOn(on);
    }

    private static Class<?> thrownBy(SkipRows x, Call call) {
        try {
            call.on(x);
        } catch (RuntimeException e) {
            return e.getClass();
        }
        return null;
    }

    /** The throws clauses of the document name these three in this order. */
    private static Class<?> due(boolean bounds, boolean argument, boolean state) {
        if (bounds) {
            return IndexOutOfBoundsException.class;
        }
        if (argument) {
            return IllegalArgumentException.class;
        }
        return state ? IllegalStateException.class : null;
    }

    private static boolean out(int value, int least, int greatest) {
        return value < least || value > greatest;
    }

    private static Set<Integer> around(int least, int greatest) {
        return new TreeSet<>(List.of(Integer.MIN_VALUE, least - 1, least, least + 1,
                greatest - 1, greatest, greatest + 1, Integer.MAX_VALUE));
    }

    private static int named(String text) {
        int named = 0;
        for (String row : text.split(";")) {
            int star = row.indexOf('*');
            named += star < 0 ? 1 : row.charAt(star + 1) - '0';
        }
        return named;
    }
}
