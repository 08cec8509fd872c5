import java.util.ArrayDeque;
import java.util.ArrayList;
import java.util.Comparator;
import java.util.Deque;
import java.util.List;
import java.util.TreeSet;
import java.util.regex.Matcher;
import java.util.regex.Pattern;

/**
 * The document once more, told in another way and with the Java library: takes and passes are done
 * step by step, looks are done on copies, states are copied whole. ModelTest holds SkipRows against it.
 */
final class Model {
    private static final String ONE = "k[0-7](u[0-9])?(\\*[2-9])?";
    private static final Pattern ROWS = Pattern.compile(ONE + "(;" + ONE + ")*");

    private static final class Row {
        int key;
        int urgency;
        int mark;
        int put;
        int state;
        int holder = -1;
        int lapse = -1;
        int tries;
        int skips;

        boolean open() {
            return state < 2;
        }
    }

    private static final class State {
        List<Row> rows = new ArrayList<>();
        int[][] readers = {{255, 0, 0, 0}, {255, 0, 0, 0}, {255, 0, 0, 0}, {255, 0, 0, 0}};
        int[] settings = {5, 3, 0, 4};
        int time;
        int puts;
        int dones;
        int skips;

        State copy() {
            State copy = new State();
            for (Row row : rows) {
                Row other = new Row();
                other.key = row.key;
                other.urgency = row.urgency;
                other.mark = row.mark;
                other.put = row.put;
                other.state = row.state;
                other.holder = row.holder;
                other.lapse = row.lapse;
                other.tries = row.tries;
                other.skips = row.skips;
                copy.rows.add(other);
            }
            for (int reader = 0; reader < 4; reader++) {
                copy.readers[reader] = readers[reader].clone();
            }
            copy.settings = settings.clone();
            copy.time = time;
            copy.puts = puts;
            copy.dones = dones;
            copy.skips = skips;
            return copy;
        }

        void put(int key, int urgency) {
            Row row = new Row();
            row.key = key;
            row.urgency = urgency;
            row.mark = puts++;
            row.put = time;
            rows.add(row);
        }

        List<Row> order() {
            List<Row> order = new ArrayList<>(rows);
            order.removeIf(row -> !row.open());
            order.sort(Comparator.<Row>comparingInt(row -> -row.urgency).thenComparingInt(row -> row.mark));
            return order;
        }

        boolean blocked(Row row) {
            return settings[2] == 1 && rows.stream().anyMatch(
                    other -> other.key == row.key && other.mark < row.mark && other.open());
        }

        int holds(int reader) {
            return (int) rows.stream().filter(row -> row.state == 1 && row.holder == reader).count();
        }

        int take(int reader, int most) {
            int taken = 0;
            for (Row row : order()) {
                if (taken >= most || holds(reader) >= settings[3]) {
                    break;
                }
                boolean wanted = (readers[reader][0] & 1 << row.key) != 0;
                if (row.state == 1 || blocked(row) || !wanted) {
                    row.skips++;
                    skips++;
                } else {
                    row.state = 1;
                    row.holder = reader;
                    row.lapse = time + settings[0];
                    taken++;
                }
            }
            return taken;
        }

        int pass(int units) {
            int ended = 0;
            for (int i = 0; i < units; i++) {
                time++;
                for (Row row : rows) {
                    if (row.state == 1 && row.lapse == time) {
                        ended++;
                        readers[row.holder][3]++;
                        row.tries++;
                        row.state = row.tries >= settings[1] ? 3 : 0;
                        row.holder = -1;
                        row.lapse = -1;
                    }
                }
            }
            return ended;
        }

        int states(int state) {
            return (int) rows.stream().filter(row -> row.state == state).count();
        }
    }

    private State now = new State();
    private final Deque<State> saved = new ArrayDeque<>();
    private String buffer = "";

    private void save() {
        saved.addLast(now.copy());
        if (saved.size() > 6) {
            saved.removeFirst();
        }
    }

    private static void bounds(boolean fits) {
        if (!fits) {
            throw new IndexOutOfBoundsException();
        }
    }

    private static void argument(boolean fits) {
        if (!fits) {
            throw new IllegalArgumentException();
        }
    }

    private static void state(boolean fits) {
        if (!fits) {
            throw new IllegalStateException();
        }
    }

    private static boolean in(int value, int least, int greatest) {
        return least <= value && value <= greatest;
    }

    private Row at(int row) {
        bounds(in(row, 0, now.rows.size() - 1));
        return now.rows.get(row);
    }

    int put(int key, int urgency) {
        argument(in(key, 0, 7) && in(urgency, 0, 9));
        state(now.rows.size() < 24);
        save();
        now.put(key, urgency);
        return now.rows.size() - 1;
    }

    int urge(int row, int urgency) {
        Row it = at(row);
        argument(in(urgency, 0, 9));
        state(it.open());
        save();
        int old = it.urgency;
        it.urgency = urgency;
        return old;
    }

    int revive(int row) {
        Row it = at(row);
        state(it.state == 3);
        save();
        int old = it.tries;
        it.tries = 0;
        it.state = 0;
        return old;
    }

    int sweep() {
        save();
        int size = now.rows.size();
        now.rows.removeIf(row -> row.state == 2);
        return size - now.rows.size();
    }

    int set(int setting, int value) {
        bounds(in(setting, 0, 3));
        int[][] ranges = {{1, 99}, {1, 9}, {0, 1}, {1, 24}};
        argument(in(value, ranges[setting][0], ranges[setting][1]));
        save();
        int old = now.settings[setting];
        now.settings[setting] = value;
        return old;
    }

    int takes(int reader, int keys) {
        bounds(in(reader, 0, 3));
        argument(in(keys, 0, 255));
        save();
        int old = now.readers[reader][0];
        now.readers[reader][0] = keys;
        return old;
    }

    int take(int reader, int most) {
        bounds(in(reader, 0, 3));
        argument(in(most, 1, 24));
        save();
        return now.take(reader, most);
    }

    private Row heldBy(int reader, int row) {
        bounds(in(reader, 0, 3));
        Row it = at(row);
        state(it.state == 1 && it.holder == reader);
        return it;
    }

    private static void end(Row row, int state) {
        row.state = state;
        row.holder = -1;
        row.lapse = -1;
    }

    int done(int reader, int row) {
        Row it = heldBy(reader, row);
        save();
        end(it, 2);
        now.dones++;
        return ++now.readers[reader][1];
    }

    int giveBack(int reader, int row) {
        Row it = heldBy(reader, row);
        save();
        end(it, 0);
        now.readers[reader][2]++;
        return now.holds(reader);
    }

    int renew(int reader) {
        bounds(in(reader, 0, 3));
        save();
        for (Row row : now.rows) {
            if (row.state == 1 && row.holder == reader) {
                row.lapse = now.time + now.settings[0];
            }
        }
        return now.holds(reader);
    }

    int pass(int units) {
        argument(in(units, 1, 99));
        state(now.time + units <= 9999);
        save();
        return now.pass(units);
    }

    int append(int code) {
        argument(in(code, 33, 126));
        state(buffer.length() < 60);
        buffer += (char) code;
        return buffer.length();
    }

    int clearBuffer() {
        int length = buffer.length();
        buffer = "";
        return length;
    }

    int firstError() {
        for (int i = 0; i < buffer.length(); i++) {
            Matcher matcher = ROWS.matcher(buffer.substring(0, i + 1));
            if (!matcher.matches() && !matcher.hitEnd()) {
                return i;
            }
        }
        return buffer.length();
    }

    int putAll() {
        argument(ROWS.matcher(buffer).matches());
        List<int[]> parts = new ArrayList<>();
        for (String part : buffer.split(";")) {
            int u = part.indexOf('u');
            int times = part.indexOf('*');
            int urgency = u < 0 ? 0 : part.charAt(u + 1) - '0';
            for (int i = 0; i < (times < 0 ? 1 : part.charAt(times + 1) - '0'); i++) {
                parts.add(new int[] {part.charAt(1) - '0', urgency});
            }
        }
        state(now.rows.size() + parts.size() <= 24);
        save();
        for (int[] part : parts) {
            now.put(part[0], part[1]);
        }
        buffer = "";
        return now.rows.size();
    }

    int undo() {
        state(!saved.isEmpty());
        now = saved.removeLast();
        return saved.size();
    }

    int row(int row, int what) {
        Row it = at(row);
        argument(in(what, 0, 10));
        int blocked = it.open() && now.blocked(it) ? 1 : 0;
        int[] all = {it.key, it.urgency, it.mark, it.state, it.holder, it.lapse, it.tries, it.skips, blocked,
            now.order().indexOf(it), now.time - it.put};
        return all[what];
    }

    int reader(int reader, int what) {
        bounds(in(reader, 0, 3));
        argument(in(what, 0, 6));
        int[] its = now.readers[reader];
        int first = now.rows.stream().filter(row -> row.state == 1 && row.holder == reader)
                .mapToInt(row -> row.lapse).min().orElse(-1);
        int next = -1;
        State after = now.copy();
        after.take(reader, 1);
        for (int row = 0; row < now.rows.size(); row++) {
            if (now.rows.get(row).state != after.rows.get(row).state) {
                next = row;
            }
        }
        int[] all = {its[0], now.holds(reader), its[1], its[2], its[3], first, next};
        return all[what];
    }

    int group(int key, int urgency, int what) {
        argument(in(key, 0, 7) && in(urgency, -1, 9) && in(what, 0, 3));
        return (int) now.rows.stream().filter(row -> row.key == key && row.state == what)
                .filter(row -> urgency == -1 || row.urgency == urgency).count();
    }

    int count(int what) {
        argument(in(what, 0, 12));
        TreeSet<Integer> pairs = new TreeSet<>();
        int blocked = 0;
        int first = -1;
        for (int i = now.rows.size() - 1; i >= 0; i--) {
            Row row = now.rows.get(i);
            if (row.state == 0) {
                pairs.add(row.key * 10 + row.urgency);
                blocked += now.blocked(row) ? 1 : 0;
                first = i;
            }
        }
        int[] all = {now.time, now.rows.size(), now.states(0), now.states(1), now.states(2), now.states(3),
            now.puts, now.dones, blocked, now.skips, pairs.size(), first, saved.size()};
        return all[what];
    }

    int setting(int setting) {
        bounds(in(setting, 0, 3));
        return now.settings[setting];
    }

    int ifTaken(int reader, int most, int what) {
        bounds(in(reader, 0, 3));
        argument(in(most, 1, 24) && in(what, 0, 2));
        State after = now.copy();
        int rows = after.take(reader, most);
        int mask = 0;
        for (int row = 0; row < now.rows.size(); row++) {
            mask |= now.rows.get(row).state != after.rows.get(row).state ? 1 << row : 0;
        }
        int[] all = {rows, mask, after.skips - now.skips};
        return all[what];
    }

    int ifPassed(int units, int what) {
        argument(in(units, 0, 200) && in(what, 0, 1));
        State after = now.copy();
        int ended = after.pass(units);
        return what == 0 ? ended : after.states(3);
    }

    int freest() {
        int best = -1;
        for (int reader = 3; reader >= 0; reader--) {
            int rows = ifTaken(reader, 24, 0);
            if (rows > 0 && (best < 0 || rows >= ifTaken(best, 24, 0))) {
                best = reader;
            }
        }
        return best;
    }

    double fairness() {
        int skips = now.rows.stream().filter(row -> row.state == 0).mapToInt(row -> row.skips).max().orElse(0);
        return 1.0 / (1.0 + (double) skips);
    }

    long digest() {
        List<Long> values = new ArrayList<>();
        for (int what = 0; what <= 12; what++) {
            values.add((long) count(what));
        }
        for (int setting : now.settings) {
            values.add((long) setting);
        }
        for (int row = 0; row < now.rows.size(); row++) {
            for (int what = 0; what <= 10; what++) {
                values.add((long) row(row, what));
            }
        }
        for (int reader = 0; reader < 4; reader++) {
            for (int what = 0; what <= 6; what++) {
                values.add((long) reader(reader, what));
            }
            for (int what = 0; what <= 2; what++) {
                values.add((long) ifTaken(reader, 24, what));
            }
        }
        for (int key = 0; key < 8; key++) {
            for (int what = 0; what <= 3; what++) {
                values.add((long) group(key, -1, what));
            }
        }
        values.add((long) ifPassed(10, 0));
        values.add((long) ifPassed(10, 1));
        values.add((long) freest());
        values.add(Double.doubleToLongBits(fairness()));
        values.add((long) buffer.length());
        for (char sign : buffer.toCharArray()) {
            values.add((long) sign);
        }
        long hash = 2683;
        for (long value : values) {
            hash = 31 * hash + value;
        }
        return hash;
    }
}
