/** Counts what the tests check, and tells what is not as it is due. */
final class Check {
    interface Call {
        long run();
    }

    private static int checks = 0;
    private static int wrong = 0;

    private Check() {
    }

    static void due(String what, long got, long want) {
        checks++;
        if (got != want) {
            tell(what + " answered " + got + ", due is " + want);
        }
    }

    static void due(String what, String got, String want) {
        isTrue(what + " answered " + got + ", due is " + want, got.equals(want));
    }

    static void due(String what, double got, double want) {
        due(what + " (" + got + ", due is " + want + ") by its bits",
                Double.doubleToLongBits(got), Double.doubleToLongBits(want));
    }

    static void isTrue(String what, boolean holds) {
        checks++;
        if (!holds) {
            tell(what);
        }
    }

    /** The call must throw exactly this exception, and change nothing that the digest sees. */
    static void refused(SkipRows x, String what, Class<? extends RuntimeException> kind, Call call) {
        checks++;
        long before = x.digest();
        Class<?> thrown = null;
        try {
            call.run();
        } catch (RuntimeException e) {
            thrown = e.getClass();
        }
        if (thrown != kind) {
            tell(what + " threw " + thrown + ", due is " + kind);
        }
        if (x.digest() != before) {
            tell(what + " threw and changed something");
        }
    }

    static void outOfBounds(SkipRows x, String what, Call call) {
        refused(x, what, IndexOutOfBoundsException.class, call);
    }

    static void badArgument(SkipRows x, String what, Call call) {
        refused(x, what, IllegalArgumentException.class, call);
    }

    static void badState(SkipRows x, String what, Call call) {
        refused(x, what, IllegalStateException.class, call);
    }

    /** The call must save one state, and undo must bring everything back; the buffer is empty. */
    static void undoable(SkipRows x, String what, Call call) {
        int saved = x.count(12);
        long before = stateOf(x);
        call.run();
        due("saved states after " + what, x.count(12), Math.min(saved + 1, 6));
        due("undo() after " + what, x.undo(), Math.min(saved, 5));
        due("the state after " + what + " and undo()", stateOf(x), before);
    }

    /**
     * A hash of all that undo brings back: the digest but for the number of saved states, the 13th value
     * in it, of an object with an empty buffer. The digest is one call alone: no object promises anything
     * behind 512 of them.
     */
    static long stateOf(SkipRows x) {
        int valuesBehind = 4 + 11 * x.count(1) + 4 * (7 + 3) + 8 * 4 + 2 + 1 + 1 + 1;
        long weight = 1;
        for (int i = 0; i < valuesBehind; i++) {
            weight *= 31;
        }
        return x.digest() - x.count(12) * weight;
    }

    static void type(SkipRows x, String text) {
        for (int i = 0; i < text.length(); i++) {
            x.append(text.charAt(i));
        }
    }

    static void end(String name) {
        System.out.println(name + ": " + checks + " checks, " + wrong + " wrong");
        if (wrong != 0 || checks == 0) {
            System.exit(1);
        }
    }

    private static void tell(String text) {
        wrong++;
        if (wrong <= 20) {
            System.out.println(text);
        }
    }
}
