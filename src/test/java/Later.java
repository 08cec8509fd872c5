/** What later calls answer, as a text: two objects that tell the same are in the same state. */
final class Later {
    private interface Call {
        long run();
    }

    private final StringBuilder told = new StringBuilder();

    private Later() {
    }

    /** Looks at what there is now, and at each saved state, back to the oldest one. */
    static String undone(SkipRows x) {
        Later later = new Later();
        later.look(x);
        later.lookAtGroups(x);
        for (int i = 0; i < 7; i++) {
            later.tell(x::undo);
            later.look(x);
        }
        return later.told.toString();
    }

    static String goneOn(SkipRows x) {
        Later later = new Later();
        later.tell(x::putAll);
        later.tell(() -> x.append('k'));
        later.tell(() -> x.take(0, 24));
        later.tell(() -> x.put(3, 3));
        later.tell(() -> x.take(2, 2));
        later.tell(() -> x.renew(2));
        later.tell(() -> x.done(2, x.count(1) - 1));
        later.tell(() -> x.giveBack(0, 0));
        later.look(x);
        later.tell(() -> x.pass(7));
        later.tell(() -> x.revive(0));
        later.tell(x::sweep);
        later.tell(x::undo);
        later.tell(() -> x.urge(0, 5));
        later.look(x);
        for (int i = 0; i < 7; i++) {
            later.tell(x::undo);
            later.look(x);
        }
        return later.told.toString();
    }

    private void look(SkipRows x) {
        tell(x::digest);
        tell(x::firstError);
    }

    /** The digest holds no group of one urgency alone. */
    private void lookAtGroups(SkipRows x) {
        for (int key = 0; key < 8; key++) {
            for (int urgency = 0; urgency < 10; urgency++) {
                int of = urgency;
                int its = key;
                tell(() -> x.group(its, of, 0));
            }
        }
    }

    private void tell(Call call) {
        try {
            told.append(call.run());
        } catch (RuntimeException e) {
            told.append(e.getClass().getSimpleName());
        }
        told.append(' ');
    }
}
