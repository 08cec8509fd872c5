/** Each sentence on texts and undo that names an edge: Input text, Undo, promises 13 to 17. */
public final class TextEdgesTest {
    private static final String TEXT_OF_57 = "k0;k1;k2;k3;k4;k5;k6;k7;k0;k1;k2;k3;k4;k5;k6;k7;k0;k1;k2;";

    public static void main(String[] args) {
        appendCodes();
        atMost60Characters();
        clearBufferEdges();
        emptyBuffer();
        errorsInAFullBuffer();
        errorAtEachIndex();
        textsOfAnyLength();
        everyDigit();
        completeOrNot();
        allOrNone();
        atMost24Rows();
        putAllOfAFullBuffer();
        putAllBehindOthers();
        manyNames();
        textPutInSteps();
        whichException();
        undoOfNothing();
        atMost6States();
        oldestIsDropped();
        undoAndOnAgain();
        savedAlsoIfNothingChanges();
        notUndoable();
        refusedCallsSaveNothing();
        allIsRestored();
        bufferIsNotRestored();
        Check.end("TextEdgesTest");
    }

    /** append: "the character code, 33 to 126". */
    private static void appendCodes() {
        SkipRows x = new SkipRows();
        for (int code : new int[] {-1, 0, 31, 32, 127, 128, 256 + 'k', 65536 + 'k'}) {
            Check.badArgument(x, "append(" + code + ")", () -> x.append(code));
        }
        for (int code = 33; code <= 126; code++) {
            SkipRows y = new SkipRows();
            Check.due("append(" + code + ")", y.append(code), 1);
            Check.due("digest() with it", y.digest(), Digest.of(y, "" + (char) code));
        }
    }

    /** "The buffer has at most 60 characters"; append "Returns the new length of the buffer." */
    private static void atMost60Characters() {
        SkipRows x = new SkipRows();
        for (int length = 1; length <= 60; length++) {
            Check.due("append as the character " + length, x.append('k'), length);
        }
        Check.badState(x, "append as the character 61", () -> x.append('k'));
        Check.badArgument(x, "append(32) as the character 61", () -> x.append(32));
        Check.badArgument(x, "append(127) as the character 61", () -> x.append(127));
        Check.due("the length", x.clearBuffer(), 60);
        for (int length = 1; length <= 60; length++) {
            Check.due("append behind clearBuffer()", x.append('u'), length);
        }
        Check.badState(x, "append as the character 61 again", () -> x.append('u'));
        Check.due("firstError() behind clearBuffer()", x.firstError(), 0);
    }

    /** clearBuffer: "Returns the length that it had." */
    private static void clearBufferEdges() {
        for (int length : new int[] {0, 1, 2, 59, 60}) {
            SkipRows x = new SkipRows();
            Check.type(x, Tables.TEXT_OF_60.substring(0, length));
            Check.due("clearBuffer()", x.clearBuffer(), length);
            Check.due("clearBuffer() again", x.clearBuffer(), 0);
            Check.due("digest() then", x.digest(), new SkipRows().digest());
        }
    }

    private static void emptyBuffer() {
        SkipRows x = new SkipRows();
        Check.due("firstError()", x.firstError(), 0);
        Check.badArgument(x, "putAll()", () -> x.putAll());
        Check.type(x, "k0");
        x.putAll();
        Check.badArgument(x, "putAll() once more", () -> x.putAll());
        Check.due("firstError() behind putAll()", x.firstError(), 0);
        Check.due("clearBuffer() behind putAll()", x.clearBuffer(), 0);
    }

    private static void error(String text, int due) {
        SkipRows x = new SkipRows();
        Check.type(x, text);
        Check.due("firstError() of " + text, x.firstError(), due);
        Check.due("firstError() again", x.firstError(), due);
    }

    /** firstError: "the length of the buffer if there is none". */
    private static void errorsInAFullBuffer() {
        error(Tables.TEXT_OF_60, 60);
        error(Tables.TEXT_OF_60.substring(0, 59), 59);
        error(TEXT_OF_57 + "k3", 59);
        error(TEXT_OF_57 + "k3;", 60);
        error(TEXT_OF_57 + "k3k", 59);
        error(TEXT_OF_57 + "k8;", 58);
        error(TEXT_OF_57 + ";;;", 57);
        error("x" + TEXT_OF_57 + "k3", 0);
        error("k" + TEXT_OF_57 + "k3", 1);
    }

    /** "the index of the first character that is a syntax error": what comes behind does not matter. */
    private static void errorAtEachIndex() {
        String text = Tables.TEXT_OF_60;
        for (int index = 0; index < 60; index++) {
            error(text.substring(0, index) + "!" + text.substring(index + 1), index);
            error(text.substring(0, index) + "!", index);
            error(text.substring(0, index), index);
        }
    }

    /** "if no rows as a text, of any length, begin with": also of more than 60 characters or 24 rows. */
    private static void textsOfAnyLength() {
        error(TEXT_OF_57 + "k3;", 60);
        error(TEXT_OF_57 + "k3*", 60);
        error(TEXT_OF_57 + "k3u", 60);
        error("k0u1;" + TEXT_OF_57.substring(3) + "k", 60);
        error("k0*9;k0*9;k0*9;k0*9;k0*9;k0*9;k0*9;k0*9;k0*9;k0*9;k0*9;k0*9;", 60);
        SkipRows full = Tables.filled(24);
        Check.type(full, "k0;");
        Check.due("firstError() with a full table", full.firstError(), 3);
    }

    /** "a key, 0 to 7", "an urgency, 0 to 9 (0 without it)", "how often, 2 to 9". */
    private static void everyDigit() {
        for (int digit = 0; digit <= 9; digit++) {
            error("k" + digit, digit <= 7 ? 2 : 1);
            error("k0u" + digit, 4);
            error("k0*" + digit, digit >= 2 ? 4 : 3);
            error("k0u0*" + digit, digit >= 2 ? 6 : 5);
        }
        for (char beside : new char[] {'/', ':'}) {
            error("k" + beside, 1);
            error("k0u" + beside, 3);
            error("k0*" + beside, 3);
            error("k0" + beside, 2);
        }
        for (int key = 0; key <= 7; key++) {
            SkipRows x = Tables.of("k" + key);
            Check.due("key and urgency", Tables.each(x, 0) + " " + Tables.each(x, 1), key + " 0");
        }
        for (int urgency = 0; urgency <= 9; urgency++) {
            SkipRows x = Tables.of("k7u" + urgency);
            Check.due("key and urgency", Tables.each(x, 0) + " " + Tables.each(x, 1), "7 " + urgency);
        }
        for (int often = 2; often <= 9; often++) {
            SkipRows x = Tables.of("k1*" + often + ";k2u3*" + often);
            Check.due("rows", x.count(1), 2 * often);
            Check.due("rows of the first", x.group(1, 0, 0), often);
            Check.due("rows of the second", x.group(2, 3, 0), often);
        }
    }

    /** putAll: "if the buffer is not complete rows as a text". */
    private static void completeOrNot() {
        String[] complete = {"k0", "k7", "k0u0", "k0u9", "k0*2", "k0*9", "k0u1*2", "k0;k1", "k0*2;k1u1", "k0u1;k1*3"};
        for (String text : complete) {
            SkipRows x = new SkipRows();
            Check.type(x, text);
            Check.due("firstError() of " + text, x.firstError(), text.length());
            x.putAll();
            Check.due("saved states after " + text, x.count(12), 1);
        }
        String[] others = {"", "k", "k0u", "k0*", "k0;", "k0u1*", "k0u1;", "k0*2;", "k0;k", "k0;k1u", "k0;k1*", "k0;;",
            ";", ";k0", "k8", "k0u1u2", "k0*1", "k0*0", "k0*2*2", "k0*2u1", "k00", "k0k1", "0", "u1", "*2", "K0", "k0U1"};
        for (String text : others) {
            SkipRows x = Tables.of("k5u5");
            Check.type(x, text);
            Check.badArgument(x, "putAll() of " + text, () -> x.putAll());
            Check.due("rows behind " + text, x.count(1), 1);
            Check.due("the length of the buffer behind " + text, x.clearBuffer(), text.length());
        }
    }

    /** putAll: "all or none, and clears the buffer". */
    private static void allOrNone() {
        SkipRows x = Tables.of("k0*9;k0*9;k0*3");
        Check.type(x, "k1;k2;k3;k4");
        Check.badState(x, "putAll() of 4 rows with room for 3", () -> x.putAll());
        Check.due("rows", x.count(1), 21);
        Check.due("firstError()", x.firstError(), 11);
        x.take(0, 1);
        x.done(0, 0);
        x.sweep();
        Check.due("putAll() of 4 rows with room for 4", x.putAll(), 24);
        Check.due("marks", x.row(19, 2) + 100 * x.row(20, 2) + 10000 * x.row(23, 2), 242120);
        Check.due("the length of the buffer", x.clearBuffer(), 0);
    }

    /** putAll: "if there would be more than 24", "Returns how many rows there are then." */
    private static void atMost24Rows() {
        SkipRows x = new SkipRows();
        Check.type(x, "k0*9;k0*9;k0*7");
        Check.badState(x, "putAll() of 25 rows", () -> x.putAll());
        x.clearBuffer();
        Check.type(x, "k0*9;k0*9;k0*6");
        Check.due("putAll() of 24 rows", x.putAll(), 24);
        Check.type(x, "k0");
        Check.badState(x, "putAll() of one row into a full table", () -> x.putAll());
        x.undo();
        Check.due("putAll() of one row behind undo()", x.putAll(), 1);
        SkipRows y = Tables.filled(23);
        Check.type(y, "k1*2");
        Check.badState(y, "putAll() of 2 rows with room for one", () -> y.putAll());
        y.clearBuffer();
        Check.type(y, "k1");
        Check.due("putAll() of one row with room for one", y.putAll(), 24);
        Check.due("its key", y.row(23, 0), 1);
    }

    private static void putAllOfAFullBuffer() {
        SkipRows x = new SkipRows();
        Check.type(x, Tables.TEXT_OF_60);
        Check.due("putAll() of 60 characters", x.putAll(), 19);
        Check.due("keys", Tables.each(x, 0), "0 7 0 1 2 3 4 5 6 7 0 1 2 3 4 5 6 7 0");
        Check.due("urgencies", Tables.each(x, 1), "0 9 0 0 0 0 0 0 0 0 0 0 0 0 0 0 0 0 0");
        Check.due("the length of the buffer", x.clearBuffer(), 0);
        Check.type(x, TEXT_OF_57 + "k3;");
        Check.badArgument(x, "putAll() of 60 characters that end with ;", () -> x.putAll());
        Check.badState(x, "append to them", () -> x.append('k'));
        Check.due("the length of the buffer", x.clearBuffer(), 60);
    }

    /** The rows are put "behind all others", in their order, at the time of the call. */
    private static void putAllBehindOthers() {
        SkipRows x = Tables.of("k5u5");
        x.pass(9);
        Check.type(x, "k1u9;k0*2;k2u1*2");
        Check.due("putAll()", x.putAll(), 6);
        Check.due("keys", Tables.each(x, 0), "5 1 0 0 2 2");
        Check.due("urgencies", Tables.each(x, 1), "5 9 0 0 1 1");
        Check.due("marks", Tables.each(x, 2), "0 1 2 3 4 5");
        Check.due("places", Tables.each(x, 9), "1 0 4 5 2 3");
        Check.due("how long ago", Tables.each(x, 10), "9 0 0 0 0 0");
        Check.due("undo() of them as one call", x.undo(), 2);
        Check.due("keys", Tables.each(x, 0), "5");
    }

    /** As many names as the buffer has room for, and what a name says is not said of the next one. */
    private static void manyNames() {
        SkipRows x = Tables.of(TEXT_OF_57 + "k3");
        Check.due("rows", x.count(1), 20);
        Check.due("keys", Tables.each(x, 0), "0 1 2 3 4 5 6 7 0 1 2 3 4 5 6 7 0 1 2 3");
        SkipRows y = Tables.of("k1u2*3;k4;k5u6;k7*2;k0");
        Check.due("keys", Tables.each(y, 0), "1 1 1 4 5 7 7 0");
        Check.due("urgencies", Tables.each(y, 1), "2 2 2 0 6 0 0 0");
        Tables.put(y, "k3;k2*2");
        Check.due("urgencies behind another text", Tables.each(y, 1), "2 2 2 0 6 0 0 0 0 0 0");
    }

    private static void textPutInSteps() {
        SkipRows x = new SkipRows();
        String text = "k1u2*3";
        int[] rows = {-1, 1, -1, 1, -1, 3};
        for (int i = 0; i < text.length(); i++) {
            x.append(text.charAt(i));
            Check.due("firstError()", x.firstError(), i + 1);
            if (rows[i] < 0) {
                Check.badArgument(x, "putAll() of " + text.substring(0, i + 1), () -> x.putAll());
            } else {
                Check.due("putAll()", x.putAll(), rows[i]);
                x.undo();
                Check.type(x, text.substring(0, i + 1));
            }
        }
    }

    /** "If several exceptions apply, the one that is named first in the throws clause is thrown." */
    private static void whichException() {
        SkipRows full = Tables.filled(24);
        Check.badArgument(full, "putAll() of nothing into a full table", () -> full.putAll());
        Check.type(full, "k0;");
        Check.badArgument(full, "putAll() of no text into a full table", () -> full.putAll());
        full.append('k');
        full.append('8');
        Check.badArgument(full, "putAll() with an error into a full table", () -> full.putAll());
        SkipRows many = new SkipRows();
        Check.type(many, "k0*9;k0*9;k0*9;");
        Check.badArgument(many, "putAll() of 27 rows and ;", () -> many.putAll());
        SkipRows long60 = new SkipRows();
        Check.type(long60, Tables.TEXT_OF_60);
        Check.badArgument(long60, "append(0) to a full buffer", () -> long60.append(0));
        Check.badState(long60, "append(33) to a full buffer", () -> long60.append(33));
        Check.badState(long60, "append(126) to a full buffer", () -> long60.append(126));
    }

    /** undo: "if there is none", "Returns how many saved states are left." */
    private static void undoOfNothing() {
        SkipRows x = new SkipRows();
        Check.badState(x, "undo() of a new object", () -> x.undo());
        x.put(1, 1);
        Check.due("undo() of one call", x.undo(), 0);
        Check.badState(x, "undo() behind it", () -> x.undo());
        Check.due("the object is as new", x.digest(), new SkipRows().digest());
        x.put(2, 2);
        Check.due("undo() of another call", x.undo(), 0);
        Check.badState(x, "undo() behind it", () -> x.undo());
    }

    /** "At most 6 states are saved". */
    private static void atMost6States() {
        for (int calls = 1; calls <= 14; calls++) {
            SkipRows x = new SkipRows();
            for (int call = 0; call < calls; call++) {
                x.put(0, 0);
            }
            int saved = Math.min(calls, 6);
            Check.due("saved states after " + calls, x.count(12), saved);
            for (int left = saved - 1; left >= 0; left--) {
                Check.due("undo()", x.undo(), left);
                Check.due("rows then", x.count(1), calls - saved + left);
                Check.due("saved states then", x.count(12), left);
            }
            Check.badState(x, "undo() of " + calls + " calls once more", () -> x.undo());
        }
    }

    /** "the oldest one is dropped first". */
    private static void oldestIsDropped() {
        SkipRows x = new SkipRows();
        for (int value = 11; value <= 18; value++) {
            x.set(0, value);
        }
        for (int value = 17; value >= 12; value--) {
            x.undo();
            Check.due("the setting 0", x.setting(0), value);
        }
        Check.badState(x, "undo() of what was dropped", () -> x.undo());
        Check.due("the setting 0", x.setting(0), 12);
    }

    /** "Restores the latest saved state, and drops it": undo() itself saves none, at no place of the history. */
    private static void undoAndOnAgain() {
        for (int first = 0; first <= 12; first++) {
            for (int undone = 0; undone <= Math.min(first, 6); undone++) {
                SkipRows x = new SkipRows();
                for (int i = 1; i <= first; i++) {
                    x.set(0, i);
                }
                for (int i = 0; i < undone; i++) {
                    x.undo();
                }
                int reached = first == undone ? 5 : first - undone;
                Check.due("the setting 0 behind undo()", x.setting(0), reached);
                int saved = Math.min(first, 6) - undone;
                Check.due("saved states", x.count(12), saved);
                x.set(0, 50);
                x.set(0, 51);
                Check.due("saved states behind two calls", x.count(12), Math.min(saved + 2, 6));
                x.undo();
                Check.due("the setting 0", x.setting(0), 50);
                x.undo();
                Check.due("the setting 0", x.setting(0), reached);
                Check.due("saved states", x.count(12), Math.min(saved, 4));
            }
        }
    }

    /** "saves the state from before it (also if it changes nothing)". */
    private static void savedAlsoIfNothingChanges() {
        SkipRows x = new SkipRows();
        Check.undoable(x, "sweep() of no row", () -> x.sweep());
        Check.undoable(x, "set to the same value", () -> x.set(0, 5));
        Check.undoable(x, "takes of the same keys", () -> x.takes(0, 255));
        Check.undoable(x, "take of no row", () -> x.take(0, 1));
        Check.undoable(x, "renew of no hold", () -> x.renew(0));
        Tables.put(x, "k0u5*2");
        x.take(1, 1);
        Check.undoable(x, "urge to the same urgency", () -> x.urge(0, 5));
        Check.undoable(x, "renew to the same time", () -> x.renew(1));
        Check.undoable(x, "take with no room", () -> x.take(1, 1));
        x.sweep();
        x.set(0, 5);
        x.takes(0, 255);
        x.urge(0, 5);
        Check.due("saved states", x.count(12), 6);
        long state = Check.stateOf(x);
        for (int left = 5; left >= 2; left--) {
            Check.due("undo()", x.undo(), left);
            Check.due("the state", Check.stateOf(x), state);
        }
        x.undo();
        Check.due("undo() of the take", x.count(3), 0);
        x.undo();
        Check.due("undo() of the rows", x.count(1), 0);
    }

    /** Calls that are not marked "undoable" save nothing. */
    private static void notUndoable() {
        SkipRows x = Tables.of("k0u5*2");
        x.append('k');
        x.clearBuffer();
        x.firstError();
        x.row(0, 0);
        x.reader(0, 6);
        x.group(0, SkipRows.NONE, 0);
        x.count(12);
        x.setting(0);
        x.ifTaken(0, 24, 2);
        x.ifPassed(200, 1);
        x.freest();
        x.fairness();
        x.digest();
        Check.due("saved states", x.count(12), 1);
        Check.due("undo()", x.undo(), 0);
        Check.due("rows", x.count(1), 0);
    }

    /** "Each method that .. does not throw an exception saves": a refused one does not. */
    private static void refusedCallsSaveNothing() {
        SkipRows x = new SkipRows();
        for (int value = 1; value <= 8; value++) {
            x.set(0, value);
        }
        Check.badArgument(x, "put(8, 0)", () -> x.put(8, 0));
        Check.outOfBounds(x, "urge(0, 0)", () -> x.urge(0, 0));
        Check.outOfBounds(x, "revive(0)", () -> x.revive(0));
        Check.badArgument(x, "set(0, 0)", () -> x.set(0, 0));
        Check.badArgument(x, "takes(0, 256)", () -> x.takes(0, 256));
        Check.badArgument(x, "take(0, 0)", () -> x.take(0, 0));
        Check.outOfBounds(x, "done(0, 0)", () -> x.done(0, 0));
        Check.outOfBounds(x, "giveBack(0, 0)", () -> x.giveBack(0, 0));
        Check.outOfBounds(x, "renew(4)", () -> x.renew(4));
        Check.badArgument(x, "pass(0)", () -> x.pass(0));
        Check.badArgument(x, "putAll()", () -> x.putAll());
        for (int value = 7; value >= 2; value--) {
            x.undo();
            Check.due("the setting 0", x.setting(0), value);
        }
        Check.badState(x, "undo()", () -> x.undo());
    }

    /** "all, also what is counted so far": each number that a call changes is back. */
    private static void allIsRestored() {
        SkipRows x = Tables.of("k0u5*2;k1u9");
        Check.undoable(x, "put", () -> x.put(3, 3));
        Check.undoable(x, "urge", () -> x.urge(0, 7));
        Check.undoable(x, "set(0)", () -> x.set(0, 9));
        Check.undoable(x, "set(1)", () -> x.set(1, 1));
        Check.undoable(x, "set(2)", () -> x.set(2, 1));
        Check.undoable(x, "set(3)", () -> x.set(3, 1));
        Check.undoable(x, "takes", () -> x.takes(2, 1));
        Check.undoable(x, "take", () -> x.take(2, 2));
        x.takes(2, 1);
        Check.undoable(x, "take with skips", () -> x.take(2, 2));
        x.take(2, 2);
        Check.undoable(x, "done", () -> x.done(2, 0));
        Check.undoable(x, "giveBack", () -> x.giveBack(2, 1));
        x.pass(1);
        Check.undoable(x, "renew", () -> x.renew(2));
        Check.undoable(x, "pass to the end of holds", () -> x.pass(4));
        x.done(2, 0);
        Check.undoable(x, "sweep", () -> x.sweep());
        x.set(1, 1);
        Check.undoable(x, "pass to death", () -> x.pass(4));
        x.pass(4);
        Check.undoable(x, "revive", () -> x.revive(1));
        for (int reader = 0; reader <= 3; reader++) {
            allOfAReaderIsRestored(reader);
        }
    }

    private static void allOfAReaderIsRestored(int reader) {
        SkipRows x = Tables.of("k0*3");
        x.take(reader, 3);
        Check.undoable(x, "takes of " + reader, () -> x.takes(reader, 7));
        Check.undoable(x, "done of " + reader, () -> x.done(reader, 0));
        Check.undoable(x, "giveBack of " + reader, () -> x.giveBack(reader, 1));
        Check.undoable(x, "pass to the end of holds of " + reader, () -> x.pass(5));
        x.done(reader, 0);
        x.giveBack(reader, 1);
        x.takes(reader, 7);
        x.pass(5);
        int[] counted = {7, 0, 1, 1, 1};
        for (int what = 0; what <= 4; what++) {
            Check.due("reader(" + reader + ", " + what + ")", x.reader(reader, what), counted[what]);
        }
        for (int call = 0; call < 4; call++) {
            x.undo();
        }
        int[] before = {255, 3, 0, 0, 0};
        for (int what = 0; what <= 4; what++) {
            Check.due("reader(" + reader + ", " + what + ") behind undo()", x.reader(reader, what), before[what]);
        }
    }

    /** "all .. but the buffer and the saved states". */
    private static void bufferIsNotRestored() {
        SkipRows x = new SkipRows();
        Check.type(x, "k1");
        x.put(0, 0);
        Check.type(x, "u2");
        Check.due("undo()", x.undo(), 0);
        Check.due("digest() with the whole buffer", x.digest(), Digest.of(x, "k1u2"));
        Check.due("putAll()", x.putAll(), 1);
        Check.due("undo()", x.undo(), 0);
        Check.due("the buffer that was cleared stays empty", x.clearBuffer(), 0);
        Check.due("the object is as new", x.digest(), new SkipRows().digest());
        x.put(0, 0);
        Check.type(x, Tables.TEXT_OF_60);
        x.undo();
        Check.badState(x, "append to a buffer that stays full", () -> x.append('k'));
        Check.due("clearBuffer()", x.clearBuffer(), 60);
        Check.badState(x, "undo() of clearBuffer()", () -> x.undo());
    }
}
