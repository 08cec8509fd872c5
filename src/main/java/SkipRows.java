/**
 * A queue table from which readers take rows, and skip rows that others hold.
 * What each call promises stands in ../shared/DOC.md.
 */
public final class SkipRows {
    public static final int NONE = -1;

    private static final int MAX_ROWS = 24;
    private static final int READERS = 4;
    private static final int KEYS = 8;
    private static final int ALL_KEYS = 255;
    private static final int MAX_URGENCY = 9;
    private static final int MAX_TIME = 9999;
    private static final int MAX_PASS = 99;
    private static final int MAX_IF_PASSED = 200;
    private static final int MAX_SAVED = 6;

    private static final int WAITS = 0;
    private static final int HELD = 1;
    private static final int DONE = 2;
    private static final int DEAD = 3;

    private static final int SETTINGS = 4;
    private static final int HOLD_LASTS = 0;
    private static final int MOST_TRIES = 1;
    private static final int IN_ORDER = 2;
    private static final int CAN_HOLD = 3;
    private static final int[] LEAST_VALUES = {1, 1, 0, 1};
    private static final int[] GREATEST_VALUES = {99, 9, 1, 24};

    private static final int ROW_PROPERTIES = 11;
    private static final int READER_PROPERTIES = 7;
    private static final int GROUP_NUMBERS = 4;
    private static final int COUNTS = 13;
    private static final int IF_TAKEN_NUMBERS = 3;
    private static final int IF_PASSED_NUMBERS = 2;

    private static final int MAX_TEXT = 60;
    private static final int FIRST_CODE = 33;
    private static final int LAST_CODE = 126;
    // A row named takes three characters at least, k, a key and ;, but for the last one's ;
    private static final int MAX_PARTS = 20;

    private static final int AT_ROW = 0;
    private static final int AT_KEY = 1;
    private static final int BEHIND_KEY = 2;
    private static final int AT_URGENCY = 3;
    private static final int BEHIND_URGENCY = 4;
    private static final int AT_TIMES = 5;
    private static final int BEHIND_TIMES = 6;
    private static final int WRONG = 7;

    private static final long FIRST_HASH = 2683L;
    private static final int DIGEST_UNITS = 10;

    private final Table table = new Table();
    private final History history = new History();
    private final Buffer buffer = new Buffer();
    // Every look is made in this one object, so that looks cost no memory.
    private final Look look = new Look();

    public SkipRows() {
    }

    // ---- rows

    public int put(int key, int urgency) throws IllegalArgumentException, IllegalStateException {
        requireWithin(key, 0, KEYS - 1);
        requireWithin(urgency, 0, MAX_URGENCY);
        requireRoomFor(1);
        history.keep(table);
        table.addRow(key, urgency);
        return table.size - 1;
    }

    public int urge(int row, int urgency)
            throws IndexOutOfBoundsException, IllegalArgumentException, IllegalStateException {
        requireRow(row);
        requireWithin(urgency, 0, MAX_URGENCY);
        if (!table.rows[row].isOpen()) {
            throw new IllegalStateException("the row is done or dead");
        }
        history.keep(table);
        int previous = table.rows[row].urgency;
        table.rows[row].urgency = urgency;
        return previous;
    }

    public int revive(int row) throws IndexOutOfBoundsException, IllegalStateException {
        requireRow(row);
        if (table.rows[row].state != DEAD) {
            throw new IllegalStateException("the row is not dead");
        }
        history.keep(table);
        int tries = table.rows[row].tries;
        table.rows[row].tries = 0;
        table.rows[row].state = WAITS;
        return tries;
    }

    public int sweep() {
        history.keep(table);
        return table.dropDoneRows();
    }

    public int set(int setting, int value) throws IndexOutOfBoundsException, IllegalArgumentException {
        requireSetting(setting);
        requireWithin(value, LEAST_VALUES[setting], GREATEST_VALUES[setting]);
        history.keep(table);
        int previous = table.settings[setting];
        table.settings[setting] = value;
        return previous;
    }

    // ---- readers

    public int takes(int reader, int keys) throws IndexOutOfBoundsException, IllegalArgumentException {
        requireReader(reader);
        requireWithin(keys, 0, ALL_KEYS);
        history.keep(table);
        int previous = table.readers[reader].keys;
        table.readers[reader].keys = keys;
        return previous;
    }

    public int take(int reader, int most) throws IndexOutOfBoundsException, IllegalArgumentException {
        requireReader(reader);
        requireWithin(most, 1, MAX_ROWS);
        history.keep(table);
        look.along(table, reader, most);
        table.holdAndSkip(reader, look);
        return look.takenRows;
    }

    public int done(int reader, int row) throws IndexOutOfBoundsException, IllegalStateException {
        requireReader(reader);
        requireRow(row);
        requireHold(reader, row);
        history.keep(table);
        table.rows[row].endHold(DONE);
        table.dones++;
        table.readers[reader].dones++;
        return table.readers[reader].dones;
    }

    public int giveBack(int reader, int row) throws IndexOutOfBoundsException, IllegalStateException {
        requireReader(reader);
        requireRow(row);
        requireHold(reader, row);
        history.keep(table);
        table.rows[row].endHold(WAITS);
        table.readers[reader].givenBack++;
        return table.holdsOf(reader);
    }

    public int renew(int reader) throws IndexOutOfBoundsException {
        requireReader(reader);
        history.keep(table);
        table.prolongHolds(reader);
        return table.holdsOf(reader);
    }

    public int pass(int units) throws IllegalArgumentException, IllegalStateException {
        requireWithin(units, 1, MAX_PASS);
        if (table.time + units > MAX_TIME) {
            throw new IllegalStateException("the time would be above 9999");
        }
        history.keep(table);
        return table.moveTime(units);
    }

    // ---- texts

    public int append(int code) throws IllegalArgumentException, IllegalStateException {
        requireWithin(code, FIRST_CODE, LAST_CODE);
        if (buffer.length >= MAX_TEXT) {
            throw new IllegalStateException("the buffer has 60 characters");
        }
        buffer.addCode(code);
        return buffer.length;
    }

    public int clearBuffer() {
        int length = buffer.length;
        buffer.length = 0;
        return length;
    }

    public int firstError() {
        return buffer.readParts();
    }

    public int putAll() throws IllegalArgumentException, IllegalStateException {
        if (!buffer.isComplete()) {
            throw new IllegalArgumentException("the buffer is not complete rows as a text");
        }
        requireRoomFor(buffer.rowsNamed());
        history.keep(table);
        for (int part = 0; part < buffer.parts; part++) {
            for (int i = 0; i < buffer.times[part]; i++) {
                table.addRow(buffer.keys[part], buffer.urgencies[part]);
            }
        }
        buffer.length = 0;
        return table.size;
    }

    public int undo() throws IllegalStateException {
        if (history.size == 0) {
            throw new IllegalStateException("there is no saved state");
        }
        history.bringBack(table);
        return history.size;
    }

    // ---- looks; nothing is changed

    public int row(int row, int what) throws IndexOutOfBoundsException, IllegalArgumentException {
        requireRow(row);
        requireWithin(what, 0, ROW_PROPERTIES - 1);
        Row seen = table.rows[row];
        switch (what) {
            case 0:
                return seen.key;
            case 1:
                return seen.urgency;
            case 2:
                return seen.mark;
            case 3:
                return seen.state;
            case 4:
                return seen.holder;
            case 5:
                return seen.lapsesAt;
            case 6:
                return seen.tries;
            case 7:
                return seen.skips;
            case 8:
                return seen.isOpen() && table.isBlocked(row) ? 1 : 0;
            case 9:
                return table.placeOf(row);
            default:
                return table.time - seen.putAt;
        }
    }

    public int reader(int reader, int what) throws IndexOutOfBoundsException, IllegalArgumentException {
        requireReader(reader);
        requireWithin(what, 0, READER_PROPERTIES - 1);
        Reader seen = table.readers[reader];
        switch (what) {
            case 0:
                return seen.keys;
            case 1:
                return table.holdsOf(reader);
            case 2:
                return seen.dones;
            case 3:
                return seen.givenBack;
            case 4:
                return seen.lapsed;
            case 5:
                return table.firstLapseOf(reader);
            default:
                look.along(table, reader, 1);
                return look.first;
        }
    }

    public int group(int key, int urgency, int what) throws IllegalArgumentException {
        requireWithin(key, 0, KEYS - 1);
        requireWithin(what, 0, GROUP_NUMBERS - 1);
        if (urgency != NONE) {
            requireWithin(urgency, 0, MAX_URGENCY);
        }
        return table.rowsOf(key, urgency, what);
    }

    public int count(int what) throws IllegalArgumentException {
        requireWithin(what, 0, COUNTS - 1);
        switch (what) {
            case 0:
                return table.time;
            case 1:
                return table.size;
            case 2:
                return table.rowsIn(WAITS);
            case 3:
                return table.rowsIn(HELD);
            case 4:
                return table.rowsIn(DONE);
            case 5:
                return table.rowsIn(DEAD);
            case 6:
                return table.puts;
            case 7:
                return table.dones;
            case 8:
                return table.blockedWaiting();
            case 9:
                return table.skips;
            case 10:
                return table.unlikePairs();
            case 11:
                return table.firstWaiting();
            default:
                return history.size;
        }
    }

    public int setting(int setting) throws IndexOutOfBoundsException {
        requireSetting(setting);
        return table.settings[setting];
    }

    // ---- what would be; nothing is changed

    public int ifTaken(int reader, int most, int what)
            throws IndexOutOfBoundsException, IllegalArgumentException {
        requireReader(reader);
        requireWithin(most, 1, MAX_ROWS);
        requireWithin(what, 0, IF_TAKEN_NUMBERS - 1);
        look.along(table, reader, most);
        switch (what) {
            case 0:
                return look.takenRows;
            case 1:
                return look.taken;
            default:
                return look.skippedRows;
        }
    }

    public int ifPassed(int units, int what) throws IllegalArgumentException {
        requireWithin(units, 0, MAX_IF_PASSED);
        requireWithin(what, 0, IF_PASSED_NUMBERS - 1);
        int then = table.time + units;
        return what == 0 ? table.holdsEndedBy(then) : table.deadBy(then);
    }

    public int freest() {
        int best = NONE;
        int bestRows = 0;
        for (int reader = 0; reader < READERS; reader++) {
            look.along(table, reader, MAX_ROWS);
            if (look.takenRows > bestRows) {
                best = reader;
                bestRows = look.takenRows;
            }
        }
        return best;
    }

    public double fairness() {
        return 1.0 / (1.0 + (double) table.greatestSkipsWaiting());
    }

    public long digest() {
        long hash = FIRST_HASH;
        for (int what = 0; what < COUNTS; what++) {
            hash = mixed(hash, count(what));
        }
        for (int setting = 0; setting < SETTINGS; setting++) {
            hash = mixed(hash, table.settings[setting]);
        }
        hash = withRows(hash);
        hash = withReaders(hash);
        hash = withGroups(hash);
        for (int what = 0; what < IF_PASSED_NUMBERS; what++) {
            hash = mixed(hash, ifPassed(DIGEST_UNITS, what));
        }
        hash = mixed(hash, freest());
        hash = mixed(hash, bitsOf(fairness()));
        return withBuffer(hash);
    }

    // ---- parts of the digest

    private static long mixed(long hash, long value) {
        return 31L * hash + value;
    }

    private long withRows(long start) {
        long hash = start;
        for (int row = 0; row < table.size; row++) {
            for (int what = 0; what < ROW_PROPERTIES; what++) {
                hash = mixed(hash, row(row, what));
            }
        }
        return hash;
    }

    private long withReaders(long start) {
        long hash = start;
        for (int reader = 0; reader < READERS; reader++) {
            for (int what = 0; what < READER_PROPERTIES; what++) {
                hash = mixed(hash, reader(reader, what));
            }
            for (int what = 0; what < IF_TAKEN_NUMBERS; what++) {
                hash = mixed(hash, ifTaken(reader, MAX_ROWS, what));
            }
        }
        return hash;
    }

    private long withGroups(long start) {
        long hash = start;
        for (int key = 0; key < KEYS; key++) {
            for (int what = 0; what < GROUP_NUMBERS; what++) {
                hash = mixed(hash, group(key, NONE, what));
            }
        }
        return hash;
    }

    private long withBuffer(long start) {
        long hash = mixed(start, buffer.length);
        for (int i = 0; i < buffer.length; i++) {
            hash = mixed(hash, buffer.codes[i]);
        }
        return hash;
    }

    /**
     * The bits of a share above 0 and up to 1, as Double.doubleToLongBits has them: LANGUAGE.md
     * leaves no class Double. Doubling is exact, so no bit is lost on the way.
     */
    private static long bitsOf(double share) {
        double scaled = share;
        long exponent = 1023L;
        for (int i = 0; i < 1022 && scaled < 1.0; i++) {
            scaled = scaled * 2.0;
            exponent--;
        }
        return (exponent << 52) + (long) ((scaled - 1.0) * 4503599627370496.0);
    }

    // ---- what a call requires

    private static void requireWithin(int value, int least, int greatest) {
        if (value < least || value > greatest) {
            throw new IllegalArgumentException("an argument is out of range");
        }
    }

    private static void requireReader(int reader) {
        if (reader < 0 || reader >= READERS) {
            throw new IndexOutOfBoundsException("there is no such reader");
        }
    }

    private static void requireSetting(int setting) {
        if (setting < 0 || setting >= SETTINGS) {
            throw new IndexOutOfBoundsException("there is no such setting");
        }
    }

    private void requireRow(int row) {
        if (row < 0 || row >= table.size) {
            throw new IndexOutOfBoundsException("there is no such row");
        }
    }

    private void requireHold(int reader, int row) {
        if (!table.rows[row].isHeldBy(reader)) {
            throw new IllegalStateException("the reader does not hold the row");
        }
    }

    private void requireRoomFor(int rows) {
        if (table.size + rows > MAX_ROWS) {
            throw new IllegalStateException("there would be more than 24 rows");
        }
    }

    // ---- the classes inside

    private static final class Row {
        int key;
        int urgency;
        int mark;
        int putAt;
        int state;
        int holder = NONE;
        int lapsesAt = NONE;
        int tries;
        int skips;

        void copyFrom(Row other) {
            key = other.key;
            urgency = other.urgency;
            mark = other.mark;
            putAt = other.putAt;
            state = other.state;
            holder = other.holder;
            lapsesAt = other.lapsesAt;
            tries = other.tries;
            skips = other.skips;
        }

        /** Makes this a row that was put just now: what it was before may be a swept row. */
        void begin(int newKey, int newUrgency, int newMark, int now) {
            key = newKey;
            urgency = newUrgency;
            mark = newMark;
            putAt = now;
            state = WAITS;
            holder = NONE;
            lapsesAt = NONE;
            tries = 0;
            skips = 0;
        }

        /** Whether it waits or is held. */
        boolean isOpen() {
            return state == WAITS || state == HELD;
        }

        boolean isHeldBy(int reader) {
            return state == HELD && holder == reader;
        }

        boolean lapsesBy(int then) {
            return state == HELD && lapsesAt <= then;
        }

        void startHold(int reader, int until) {
            state = HELD;
            holder = reader;
            lapsesAt = until;
        }

        void endHold(int nextState) {
            state = nextState;
            holder = NONE;
            lapsesAt = NONE;
        }
    }

    private static final class Reader {
        int keys = ALL_KEYS;
        int dones;
        int givenBack;
        int lapsed;

        void copyFrom(Reader other) {
            keys = other.keys;
            dones = other.dones;
            givenBack = other.givenBack;
            lapsed = other.lapsed;
        }

        boolean wants(int key) {
            return (keys >> key & 1) == 1;
        }
    }

    /** All that undo brings back. The rows stand by ascending marks, the first `size` of them count. */
    private static final class Table {
        final Row[] rows = new Row[MAX_ROWS];
        final Reader[] readers = new Reader[READERS];
        final int[] settings = {5, 3, 0, 4};
        int size;
        int time;
        int puts;
        int dones;
        int skips;

        Table() {
            for (int row = 0; row < MAX_ROWS; row++) {
                rows[row] = new Row();
            }
            for (int reader = 0; reader < READERS; reader++) {
                readers[reader] = new Reader();
            }
        }

        void copyFrom(Table other) {
            for (int row = 0; row < other.size; row++) {
                rows[row].copyFrom(other.rows[row]);
            }
            for (int reader = 0; reader < READERS; reader++) {
                readers[reader].copyFrom(other.readers[reader]);
            }
            for (int setting = 0; setting < SETTINGS; setting++) {
                settings[setting] = other.settings[setting];
            }
            size = other.size;
            time = other.time;
            puts = other.puts;
            dones = other.dones;
            skips = other.skips;
        }

        void addRow(int key, int urgency) {
            if (size < MAX_ROWS) {
                rows[size].begin(key, urgency, puts, time);
                size++;
                puts++;
            }
        }

        int dropDoneRows() {
            int kept = 0;
            for (int row = 0; row < size; row++) {
                if (rows[row].state != DONE) {
                    rows[kept].copyFrom(rows[row]);
                    kept++;
                }
            }
            int dropped = size - kept;
            size = kept;
            return dropped;
        }

        boolean isBlocked(int row) {
            if (settings[IN_ORDER] != 1) {
                return false;
            }
            for (int ahead = 0; ahead < row; ahead++) {
                if (rows[ahead].key == rows[row].key && rows[ahead].isOpen()) {
                    return true;
                }
            }
            return false;
        }

        boolean canTake(int reader, int row) {
            return rows[row].state == WAITS && readers[reader].wants(rows[row].key) && !isBlocked(row);
        }

        void holdAndSkip(int reader, Look look) {
            for (int row = 0; row < size; row++) {
                if (look.hasTaken(row)) {
                    rows[row].startHold(reader, time + settings[HOLD_LASTS]);
                } else if (look.hasSkipped(row)) {
                    rows[row].skips++;
                    skips++;
                }
            }
        }

        int holdsOf(int reader) {
            int holds = 0;
            for (int row = 0; row < size; row++) {
                if (rows[row].isHeldBy(reader)) {
                    holds++;
                }
            }
            return holds;
        }

        void prolongHolds(int reader) {
            for (int row = 0; row < size; row++) {
                if (rows[row].isHeldBy(reader)) {
                    rows[row].lapsesAt = time + settings[HOLD_LASTS];
                }
            }
        }

        int firstLapseOf(int reader) {
            int first = NONE;
            for (int row = 0; row < size; row++) {
                if (rows[row].isHeldBy(reader) && (first == NONE || rows[row].lapsesAt < first)) {
                    first = rows[row].lapsesAt;
                }
            }
            return first;
        }

        /** Nothing but the end of its hold happens to a row in this time, so one step does for all units. */
        int moveTime(int units) {
            time = time + units;
            int ended = 0;
            for (int row = 0; row < size; row++) {
                if (rows[row].lapsesBy(time)) {
                    lapse(rows[row]);
                    ended++;
                }
            }
            return ended;
        }

        private void lapse(Row row) {
            if (row.holder >= 0 && row.holder < READERS) {
                readers[row.holder].lapsed++;
            }
            row.tries++;
            row.endHold(row.tries >= settings[MOST_TRIES] ? DEAD : WAITS);
        }

        int holdsEndedBy(int then) {
            int ended = 0;
            for (int row = 0; row < size; row++) {
                if (rows[row].lapsesBy(then)) {
                    ended++;
                }
            }
            return ended;
        }

        int deadBy(int then) {
            int dead = rowsIn(DEAD);
            for (int row = 0; row < size; row++) {
                if (rows[row].lapsesBy(then) && rows[row].tries + 1 >= settings[MOST_TRIES]) {
                    dead++;
                }
            }
            return dead;
        }

        int placeOf(int row) {
            if (!rows[row].isOpen()) {
                return NONE;
            }
            int place = 0;
            for (int other = 0; other < size; other++) {
                if (rows[other].isOpen() && isAhead(other, row)) {
                    place++;
                }
            }
            return place;
        }

        private boolean isAhead(int one, int other) {
            if (rows[one].urgency != rows[other].urgency) {
                return rows[one].urgency > rows[other].urgency;
            }
            return rows[one].mark < rows[other].mark;
        }

        int rowsIn(int state) {
            int found = 0;
            for (int row = 0; row < size; row++) {
                if (rows[row].state == state) {
                    found++;
                }
            }
            return found;
        }

        int rowsOf(int key, int urgency, int state) {
            int found = 0;
            for (int row = 0; row < size; row++) {
                boolean fits = urgency == NONE || rows[row].urgency == urgency;
                if (fits && rows[row].key == key && rows[row].state == state) {
                    found++;
                }
            }
            return found;
        }

        int blockedWaiting() {
            int found = 0;
            for (int row = 0; row < size; row++) {
                if (rows[row].state == WAITS && isBlocked(row)) {
                    found++;
                }
            }
            return found;
        }

        int firstWaiting() {
            for (int row = 0; row < size; row++) {
                if (rows[row].state == WAITS) {
                    return row;
                }
            }
            return NONE;
        }

        int unlikePairs() {
            int pairs = 0;
            for (int row = 0; row < size; row++) {
                if (rows[row].state == WAITS && !hasEarlierPair(row)) {
                    pairs++;
                }
            }
            return pairs;
        }

        private boolean hasEarlierPair(int row) {
            for (int earlier = 0; earlier < row; earlier++) {
                if (rows[earlier].state == WAITS && rows[earlier].key == rows[row].key
                        && rows[earlier].urgency == rows[row].urgency) {
                    return true;
                }
            }
            return false;
        }

        int greatestSkipsWaiting() {
            int greatest = 0;
            for (int row = 0; row < size; row++) {
                if (rows[row].state == WAITS) {
                    greatest = Math.max(greatest, rows[row].skips);
                }
            }
            return greatest;
        }
    }

    /** What a reader takes and skips when it looks along a table: how many rows, and which, as masks. */
    private static final class Look {
        int taken;
        int takenRows;
        int skipped;
        int skippedRows;
        int first;

        /**
         * A row blocks others alike whether it waits or is held, so what the reader takes on its way
         * changes nothing for the rows behind, and the table can stay as it is.
         */
        void along(Table table, int reader, int most) {
            forget();
            int room = Math.min(most, table.settings[CAN_HOLD] - table.holdsOf(reader));
            for (int urgency = MAX_URGENCY; urgency >= 0 && takenRows < room; urgency--) {
                for (int row = 0; row < table.size && takenRows < room; row++) {
                    if (table.rows[row].urgency == urgency && table.rows[row].isOpen()) {
                        meet(row, table.canTake(reader, row));
                    }
                }
            }
        }

        private void forget() {
            taken = 0;
            takenRows = 0;
            skipped = 0;
            skippedRows = 0;
            first = NONE;
        }

        private void meet(int row, boolean canTake) {
            if (!canTake) {
                skipped = skipped | 1 << row;
                skippedRows++;
                return;
            }
            if (takenRows == 0) {
                first = row;
            }
            taken = taken | 1 << row;
            takenRows++;
        }

        boolean hasTaken(int row) {
            return (taken >> row & 1) == 1;
        }

        boolean hasSkipped(int row) {
            return (skipped >> row & 1) == 1;
        }
    }

    /** The saved states: a ring of tables that are made once, the oldest one at `oldest`. */
    private static final class History {
        private final Table[] saved = new Table[MAX_SAVED];
        private int oldest;
        int size;

        History() {
            for (int i = 0; i < MAX_SAVED; i++) {
                saved[i] = new Table();
            }
        }

        void keep(Table table) {
            if (size == MAX_SAVED) {
                oldest = (oldest + 1) % MAX_SAVED;
                size--;
            }
            saved[(oldest + size) % MAX_SAVED].copyFrom(table);
            size++;
        }

        void bringBack(Table table) {
            if (size > 0) {
                size--;
                table.copyFrom(saved[(oldest + size) % MAX_SAVED]);
            }
        }
    }

    /** The characters that were appended, and the parts, one a row named, that readParts finds in them. */
    private static final class Buffer {
        final int[] codes = new int[MAX_TEXT];
        int length;
        final int[] keys = new int[MAX_PARTS];
        final int[] urgencies = new int[MAX_PARTS];
        final int[] times = new int[MAX_PARTS];
        int parts;
        private int place;

        void addCode(int code) {
            if (length < MAX_TEXT) {
                codes[length] = code;
                length++;
            }
        }

        /** Returns the index of the first syntax error, the length if there is none. */
        int readParts() {
            parts = 0;
            place = AT_ROW;
            for (int i = 0; i < length; i++) {
                place = placeBehind(codes[i]);
                if (place == WRONG) {
                    return i;
                }
                noteCode(codes[i] - '0');
            }
            return length;
        }

        boolean isComplete() {
            return readParts() == length
                    && (place == BEHIND_KEY || place == BEHIND_URGENCY || place == BEHIND_TIMES);
        }

        /** Holds for what readParts found last. */
        int rowsNamed() {
            int rows = 0;
            for (int part = 0; part < parts; part++) {
                rows = rows + times[part];
            }
            return rows;
        }

        private int placeBehind(int code) {
            switch (place) {
                case AT_ROW:
                    return code == 'k' ? AT_KEY : WRONG;
                case AT_KEY:
                    return code >= '0' && code <= '7' ? BEHIND_KEY : WRONG;
                case BEHIND_KEY:
                    return code == 'u' ? AT_URGENCY : placeBehindUrgency(code);
                case AT_URGENCY:
                    return code >= '0' && code <= '9' ? BEHIND_URGENCY : WRONG;
                case BEHIND_URGENCY:
                    return placeBehindUrgency(code);
                case AT_TIMES:
                    return code >= '2' && code <= '9' ? BEHIND_TIMES : WRONG;
                case BEHIND_TIMES:
                    return code == ';' ? AT_ROW : WRONG;
                default:
                    return WRONG;
            }
        }

        private static int placeBehindUrgency(int code) {
            if (code == '*') {
                return AT_TIMES;
            }
            return code == ';' ? AT_ROW : WRONG;
        }

        private void noteCode(int digit) {
            if (place == BEHIND_KEY && parts < MAX_PARTS) {
                keys[parts] = digit;
                urgencies[parts] = 0;
                times[parts] = 1;
                parts++;
            } else if (place == BEHIND_URGENCY && parts > 0) {
                urgencies[parts - 1] = digit;
            } else if (place == BEHIND_TIMES && parts > 0) {
                times[parts - 1] = digit;
            }
        }
    }
}
