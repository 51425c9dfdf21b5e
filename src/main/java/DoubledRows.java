import java.util.NoSuchElementException;

/** A row of values that is asked for the least of a stretch by looks into rows of doubled widths. */
public final class DoubledRows {
    public static final int SYNTAX_ERROR = -2;
    public static final int OUT_OF_RANGE = -3;
    public static final int TOO_MANY = -4;
    public static final int REFUSED = -5;

    private static final int TEXT_BYTES = 500;
    private static final int APPENDED_BYTES = 20;
    private static final int MOST_VALUES = 40;
    private static final int GREATEST_VALUE = 999;
    private static final int MOST_KEPT = 8;
    private static final int MOST_UNDONE = 8;
    private static final int GREATEST_MOST = 8;

    /** 40 values hold cells of 32 values, and of no more: the levels are 0 to 5. */
    private static final int MOST_LEVELS = 6;

    private static final int BUILD_AT_QUESTION = 0;
    private static final int WRITE_AT_ONCE = 1;
    private static final int BUILD_WHEN_MANY_WAIT = 2;

    private static final int NUMBERS_OF_STATE = 11;
    private static final int WHAT_RULE = 1;
    private static final int WHAT_MOST = 2;

    private static final int NO_PLACE = -1;
    private static final int NO_ERROR = 0;

    private static final int NO_STATEMENT = 0;
    private static final int SET_STATEMENT = 1;
    private static final int ASK_STATEMENT = 2;
    private static final int KEEP_STATEMENT = 3;
    private static final int PUT_STATEMENT = 4;
    private static final int TAKE_STATEMENT = 5;

    private final Row row = new Row();
    private final History history = new History();
    private final SetupReader reader = new SetupReader();
    private int latestErrorOffset = -1;

    public DoubledRows() {
        row.start(BUILD_AT_QUESTION, 2);
        row.addAtEnd(0);
        row.buildAll();
    }

    public int append(int w0, int w1, int w2, int w3, int w4) {
        if (reader.size > TEXT_BYTES - APPENDED_BYTES) {
            return -1;
        }
        reader.addWord(w0);
        reader.addWord(w1);
        reader.addWord(w2);
        reader.addWord(w3);
        reader.addWord(w4);
        return reader.size;
    }

    public int load(int length) throws IllegalArgumentException {
        if (length < 0 || length > reader.size) {
            throw new IllegalArgumentException("length is not within the buffer");
        }
        int answer = reader.read(length);
        reader.size = 0;
        latestErrorOffset = reader.errorAt;
        if (reader.error == NO_ERROR) {
            history.save(row);
            row.copyFrom(reader.draft);
        }
        return answer;
    }

    public int errorOffset() {
        return latestErrorOffset;
    }

    public int state(int what) throws IllegalArgumentException {
        if (what < 0 || what >= NUMBERS_OF_STATE) {
            throw new IllegalArgumentException("what is not 0 to 10");
        }
        return numberOfState(what);
    }

    public int value(int place) throws IndexOutOfBoundsException {
        demandPlace(place);
        return row.valueAt(place);
    }

    public int cell(int level, int place) throws IndexOutOfBoundsException, NoSuchElementException {
        demandPlace(place);
        if (!row.hasCell(level, place)) {
            throw new NoSuchElementException("no such cell");
        }
        return row.cellAt(level, place);
    }

    public boolean waits(int place) throws IndexOutOfBoundsException {
        demandPlace(place);
        return row.isWaiting(place);
    }

    public int least(int from, int to) throws IndexOutOfBoundsException, IllegalArgumentException {
        demandStretch(from, to);
        return row.leastByValues(from, to);
    }

    public int looks(int from, int to) throws IndexOutOfBoundsException, IllegalArgumentException {
        demandStretch(from, to);
        return looksFor(from, to, row.waitingAtQuestion());
    }

    public int writes() {
        return row.isBuiltByQuestion() ? row.cellCount() : 0;
    }

    public int above(int place) throws IndexOutOfBoundsException {
        demandPlace(place);
        return cellsOver(place);
    }

    public int lessBehind(int place) throws IndexOutOfBoundsException {
        demandPlace(place);
        for (int later = place + 1; later < row.count; later++) {
            if (row.valueAt(later) < row.valueAt(place)) {
                return later;
            }
        }
        return NO_PLACE;
    }

    public int rules(int place) throws IndexOutOfBoundsException {
        demandPlace(place);
        int own = row.valueAt(place);
        // The leftmost of equal values counts: an equal one ends the stretches on the left alone.
        int firsts = 1;
        while (firsts <= place && row.valueAt(place - firsts) > own) {
            firsts++;
        }
        int lasts = 1;
        while (place + lasts < row.count && row.valueAt(place + lasts) >= own) {
            lasts++;
        }
        return firsts * lasts;
    }

    public int sum(int from, int to) throws IndexOutOfBoundsException, IllegalArgumentException {
        demandStretch(from, to);
        int total = 0;
        for (int place = from; place <= to; place++) {
            total += row.valueAt(place);
        }
        return total;
    }

    public int kept(int k) throws NoSuchElementException {
        demandKept(k);
        return keptAsNumber(k);
    }

    public int looksOfKept() {
        return looksForKept(row.waitingAtQuestion());
    }

    public int bestRule(int place) throws IndexOutOfBoundsException {
        demandPlace(place);
        int looksWithNoneWaiting = looksForKept(0);
        // Without a question behind the change nothing is built.
        int byQuestion = row.stretches.count == 0 ? 0 : row.cellCount() + looksWithNoneWaiting;
        int atOnce = cellsOver(place) + looksWithNoneWaiting;
        // Most is 1 at least, so the one place that waits is never too many.
        int byWaiting = looksForKept(1L << place);
        if (byQuestion <= atOnce && byQuestion <= byWaiting) {
            return BUILD_AT_QUESTION;
        }
        return atOnce <= byWaiting ? WRITE_AT_ONCE : BUILD_WHEN_MANY_WAIT;
    }

    public int ranked(int rank) throws NoSuchElementException {
        if (!row.isPlace(rank)) {
            throw new NoSuchElementException("no such rank");
        }
        for (int place = 0; place < row.count; place++) {
            if (placesAheadOf(place) == rank) {
                return place;
            }
        }
        return NO_PLACE;
    }

    public int gap() {
        int wrong = 0;
        for (int level = 1; level < MOST_LEVELS; level++) {
            int cells = row.cellsOnLevel(level);
            for (int place = 0; place < cells; place++) {
                wrong += row.isCellWrong(level, place) ? 1 : 0;
            }
        }
        for (int k = 0; k < row.stretches.count; k++) {
            wrong += row.hasStretch(row.stretches.fromAt(k), row.stretches.toAt(k)) ? 0 : 1;
        }
        return wrong;
    }

    public float costOfOne() {
        if (row.questions == 0) {
            return 0;
        }
        return (float) (row.looked + row.written) / (float) row.questions;
    }

    public int set(int place, int value) throws IndexOutOfBoundsException, IllegalArgumentException {
        demandPlace(place);
        demandValue(value);
        history.save(row);
        return row.change(place, value);
    }

    public int ask(int from, int to) throws IndexOutOfBoundsException, IllegalArgumentException {
        demandStretch(from, to);
        history.save(row);
        return row.question(from, to);
    }

    public int keep(int from, int to)
            throws IndexOutOfBoundsException, IllegalArgumentException, IllegalStateException {
        demandStretch(from, to);
        if (row.stretches.count >= MOST_KEPT) {
            throw new IllegalStateException("8 stretches are kept");
        }
        history.save(row);
        row.stretches.add(from, to);
        return row.stretches.count;
    }

    public int forget(int k) throws NoSuchElementException {
        demandKept(k);
        history.save(row);
        row.stretches.removeAt(k);
        return row.stretches.count;
    }

    public int sweep(int limit) throws IllegalArgumentException {
        if (limit < -GREATEST_VALUE || limit > GREATEST_VALUE + 1) {
            throw new IllegalArgumentException("limit is not -999 to 1000");
        }
        history.save(row);
        return row.askAndDropBelow(limit);
    }

    public int put(int place, int value)
            throws IndexOutOfBoundsException, IllegalArgumentException, IllegalStateException {
        if (place != row.count) {
            demandPlace(place);
        }
        demandValue(value);
        if (row.count >= MOST_VALUES) {
            throw new IllegalStateException("there are 40 values");
        }
        history.save(row);
        row.insert(place, value);
        return row.count;
    }

    public int take(int place) throws IndexOutOfBoundsException, IllegalStateException {
        demandPlace(place);
        if (row.count == 1) {
            throw new IllegalStateException("it is the only value");
        }
        history.save(row);
        return row.remove(place);
    }

    public int rule(int what, int value) throws IllegalArgumentException {
        boolean isRule = what == WHAT_RULE && value >= BUILD_AT_QUESTION && value <= BUILD_WHEN_MANY_WAIT;
        boolean isMost = what == WHAT_MOST && value >= 1 && value <= GREATEST_MOST;
        if (!isRule && !isMost) {
            throw new IllegalArgumentException("what or value is out of range");
        }
        history.save(row);
        return isRule ? row.changeRule(value) : row.changeMost(value);
    }

    public int undo() {
        return history.restore(row) ? history.size : -1;
    }

    public long checksum() {
        long total = 0;
        for (int what = 0; what < NUMBERS_OF_STATE; what++) {
            total = 31 * total + numberOfState(what);
        }
        for (int place = 0; place < row.count; place++) {
            total = 31 * total + row.valueAt(place);
            total = 31 * total + (row.isWaiting(place) ? 1 : 0);
        }
        for (int level = 1; level < MOST_LEVELS; level++) {
            int cells = row.cellsOnLevel(level);
            for (int place = 0; place < cells; place++) {
                total = 31 * total + row.cellAt(level, place);
            }
        }
        for (int k = 0; k < row.stretches.count; k++) {
            total = 31 * total + keptAsNumber(k);
        }
        return total;
    }

    private void demandPlace(int place) {
        if (!row.isPlace(place)) {
            throw new IndexOutOfBoundsException("no such place");
        }
    }

    private void demandStretch(int from, int to) {
        demandPlace(from);
        demandPlace(to);
        if (from > to) {
            throw new IllegalArgumentException("from is greater than to");
        }
    }

    private void demandValue(int value) {
        if (value < -GREATEST_VALUE || value > GREATEST_VALUE) {
            throw new IllegalArgumentException("value is not -999 to 999");
        }
    }

    private void demandKept(int k) {
        if (k < 0 || k >= row.stretches.count) {
            throw new NoSuchElementException("not so many stretches are kept");
        }
    }

    private int numberOfState(int what) {
        switch (what) {
            case 0: return row.count;
            case 1: return row.ruleNow;
            case 2: return row.most;
            case 3: return greatestLevel(row.count) + 1;
            case 4: return row.cellCount();
            case 5: return Long.bitCount(row.waiting);
            case 6: return row.stretches.count;
            case 7: return row.looked;
            case 8: return row.written;
            case 9: return row.questions;
            default: return row.builds;
        }
    }

    private int keptAsNumber(int k) {
        return 100 * row.stretches.fromAt(k) + row.stretches.toAt(k);
    }

    private int cellsOver(int place) {
        int cells = 0;
        for (int level = 1; level < MOST_LEVELS; level++) {
            cells += Math.max(0, row.lastCellOver(level, place) - firstCellOver(level, place) + 1);
        }
        return cells;
    }

    private int placesAheadOf(int place) {
        int ahead = 0;
        for (int other = 0; other < row.count; other++) {
            if (other != place && row.lesser(other, place) == other) {
                ahead++;
            }
        }
        return ahead;
    }

    private int looksForKept(long waiting) {
        int looks = 0;
        for (int k = 0; k < row.stretches.count; k++) {
            looks += looksFor(row.stretches.fromAt(k), row.stretches.toAt(k), waiting);
        }
        return looks;
    }

    private static int looksFor(int from, int to, long waiting) {
        int looks = 0;
        int run = 0;
        for (int place = from; place <= to; place++) {
            if (isAmong(waiting, place)) {
                looks += looksForRun(run) + 1;
                run = 0;
            } else {
                run++;
            }
        }
        return looks + looksForRun(run);
    }

    private static int looksForRun(int length) {
        if (length == 0) {
            return 0;
        }
        return length == (1 << greatestLevel(length)) ? 1 : 2;
    }

    /** The greatest level of which one cell is no longer than so many values. */
    private static int greatestLevel(int length) {
        int level = 0;
        while (level < MOST_LEVELS - 1 && (2 << level) <= length) {
            level++;
        }
        return level;
    }

    private static int firstCellOver(int level, int place) {
        return Math.max(0, place - (1 << level) + 1);
    }

    private static boolean isAmong(long places, int place) {
        return ((places >>> place) & 1) != 0;
    }

    /** All that a change may alter and undo brings back. */
    static final class Row {
        private final int[] values = new int[MOST_VALUES];
        private final int[] cells = new int[MOST_LEVELS * MOST_VALUES];
        final Stretches stretches = new Stretches();
        int count;
        int ruleNow;
        int most;
        /** Bit p stands for place p: 40 places fit, and a copy is one assignment. */
        long waiting;
        int looked;
        int written;
        int questions;
        int builds;

        void start(int newRule, int newMost) {
            count = 0;
            ruleNow = newRule;
            most = newMost;
            waiting = 0;
            looked = 0;
            written = 0;
            questions = 0;
            builds = 0;
            stretches.count = 0;
        }

        void copyFrom(Row other) {
            System.arraycopy(other.values, 0, values, 0, Math.min(other.values.length, values.length));
            System.arraycopy(other.cells, 0, cells, 0, Math.min(other.cells.length, cells.length));
            stretches.copyFrom(other.stretches);
            count = other.count;
            ruleNow = other.ruleNow;
            most = other.most;
            waiting = other.waiting;
            looked = other.looked;
            written = other.written;
            questions = other.questions;
            builds = other.builds;
        }

        boolean isPlace(int place) {
            return place >= 0 && place < count;
        }

        boolean hasStretch(int from, int to) {
            return isPlace(from) && isPlace(to) && from <= to;
        }

        int valueAt(int place) {
            return place >= 0 && place < values.length ? values[place] : 0;
        }

        boolean isWaiting(int place) {
            return isAmong(waiting, place);
        }

        int cellsOnLevel(int level) {
            return Math.max(0, count - (1 << level) + 1);
        }

        int cellCount() {
            int sum = 0;
            for (int level = 1; level < MOST_LEVELS; level++) {
                sum += cellsOnLevel(level);
            }
            return sum;
        }

        boolean hasCell(int level, int place) {
            return level >= 0 && level < MOST_LEVELS && place >= 0 && place < cellsOnLevel(level);
        }

        int cellAt(int level, int place) {
            int index = level * MOST_VALUES + place;
            if (level == 0 || index < 0 || index >= cells.length) {
                return place;
            }
            return cells[index];
        }

        int lastCellOver(int level, int place) {
            return Math.min(place, count - (1 << level));
        }

        boolean isCellWrong(int level, int place) {
            long itsPlaces = ((1L << (1 << level)) - 1) << place;
            return (waiting & itsPlaces) == 0
                    && cellAt(level, place) != leastByValues(place, place + (1 << level) - 1);
        }

        /** NO_PLACE stands for nothing seen yet, so it gives way to any place. */
        int lesser(int one, int other) {
            if (one < 0 || one >= values.length) {
                return other;
            }
            if (other < 0 || other >= values.length) {
                return one;
            }
            if (values[one] == values[other]) {
                return Math.min(one, other);
            }
            return values[one] < values[other] ? one : other;
        }

        int leastByValues(int from, int to) {
            int told = NO_PLACE;
            for (int place = from; place <= to; place++) {
                told = lesser(told, place);
            }
            return told;
        }

        void buildAll() {
            writeCellsOver(0, count - 1);
            waiting = 0;
            builds++;
        }

        /** By rising levels, since each cell is written from two of the level below. */
        void writeCellsOver(int from, int to) {
            for (int level = 1; level < MOST_LEVELS; level++) {
                int half = 1 << (level - 1);
                int last = lastCellOver(level, to);
                for (int place = firstCellOver(level, from); place <= last; place++) {
                    int index = level * MOST_VALUES + place;
                    if (index >= 0 && index < cells.length) {
                        cells[index] = lesser(cellAt(level - 1, place), cellAt(level - 1, place + half));
                        written++;
                    }
                }
            }
        }

        boolean isBuiltByQuestion() {
            return ruleNow == BUILD_AT_QUESTION && waiting != 0;
        }

        long waitingAtQuestion() {
            return ruleNow == BUILD_AT_QUESTION ? 0 : waiting;
        }

        int question(int from, int to) {
            if (isBuiltByQuestion()) {
                buildAll();
            }
            questions++;
            looked += looksFor(from, to, waiting);
            return leastByLooks(from, to);
        }

        int leastByLooks(int from, int to) {
            int told = NO_PLACE;
            int runStart = from;
            for (int place = from; place <= to; place++) {
                if (isWaiting(place)) {
                    told = lesser(told, leastOfRun(runStart, place - 1));
                    told = lesser(told, place);
                    runStart = place + 1;
                }
            }
            return lesser(told, leastOfRun(runStart, to));
        }

        int leastOfRun(int first, int last) {
            if (first > last) {
                return NO_PLACE;
            }
            int level = greatestLevel(last - first + 1);
            return lesser(cellAt(level, first), cellAt(level, last - (1 << level) + 1));
        }

        int change(int place, int value) {
            int before = valueAt(place);
            store(place, value);
            if (ruleNow == WRITE_AT_ONCE) {
                writeCellsOver(place, place);
            } else {
                waiting |= 1L << place;
            }
            if (ruleNow == BUILD_WHEN_MANY_WAIT && Long.bitCount(waiting) > most) {
                buildAll();
            }
            return before;
        }

        int askAndDropBelow(int limit) {
            int dropped = 0;
            int k = 0;
            for (int unasked = stretches.count; unasked > 0; unasked--) {
                int told = question(stretches.fromAt(k), stretches.toAt(k));
                if (valueAt(told) < limit) {
                    stretches.removeAt(k);
                    dropped++;
                } else {
                    k++;
                }
            }
            return dropped;
        }

        void addAtEnd(int value) {
            store(count, value);
            count++;
        }

        void insert(int place, int value) {
            for (int target = count; target > place; target--) {
                store(target, valueAt(target - 1));
            }
            store(place, value);
            count++;
            stretches.makeRoomAt(place);
            buildAll();
        }

        int remove(int place) {
            int before = valueAt(place);
            for (int target = place; target < count - 1; target++) {
                store(target, valueAt(target + 1));
            }
            count--;
            stretches.closeRoomAt(place);
            buildAll();
            return before;
        }

        int changeRule(int newRule) {
            int before = ruleNow;
            ruleNow = newRule;
            buildAll();
            return before;
        }

        int changeMost(int newMost) {
            int before = most;
            most = newMost;
            return before;
        }

        private void store(int place, int value) {
            if (place >= 0 && place < values.length) {
                values[place] = value;
            }
        }
    }

    /** The kept stretches, in the order in which they came. */
    static final class Stretches {
        private final int[] froms = new int[MOST_KEPT];
        private final int[] tos = new int[MOST_KEPT];
        int count;

        void copyFrom(Stretches other) {
            System.arraycopy(other.froms, 0, froms, 0, Math.min(other.froms.length, froms.length));
            System.arraycopy(other.tos, 0, tos, 0, Math.min(other.tos.length, tos.length));
            count = other.count;
        }

        int fromAt(int k) {
            return k >= 0 && k < froms.length ? froms[k] : 0;
        }

        int toAt(int k) {
            return k >= 0 && k < tos.length ? tos[k] : 0;
        }

        void add(int from, int to) {
            store(count, from, to);
            count++;
        }

        void removeAt(int k) {
            for (int later = k + 1; later < count; later++) {
                store(later - 1, fromAt(later), toAt(later));
            }
            count--;
        }

        void makeRoomAt(int place) {
            for (int k = 0; k < count; k++) {
                int from = fromAt(k);
                int to = toAt(k);
                store(k, from >= place ? from + 1 : from, to >= place ? to + 1 : to);
            }
        }

        void closeRoomAt(int place) {
            // From the last one on, since a stretch that goes moves those behind it.
            for (int k = count - 1; k >= 0; k--) {
                int from = fromAt(k);
                int to = toAt(k);
                if (from == place && to == place) {
                    removeAt(k);
                } else {
                    store(k, from > place ? from - 1 : from, to >= place ? to - 1 : to);
                }
            }
        }

        private void store(int k, int from, int to) {
            if (k >= 0 && k < froms.length && k < tos.length) {
                froms[k] = from;
                tos[k] = to;
            }
        }
    }

    /** The rows as they were ahead of the latest changes; the oldest gives its room to the newest. */
    static final class History {
        private final Row[] rows = new Row[MOST_UNDONE];
        private int next;
        int size;

        History() {
            for (int k = 0; k < rows.length; k++) {
                rows[k] = new Row();
            }
        }

        void save(Row now) {
            Row room = rowAt(next);
            if (room != null) {
                room.copyFrom(now);
                next = (next + 1) % MOST_UNDONE;
                size = Math.min(size + 1, MOST_UNDONE);
            }
        }

        boolean restore(Row now) {
            int latest = (next + MOST_UNDONE - 1) % MOST_UNDONE;
            Row before = rowAt(latest);
            if (size == 0 || before == null) {
                return false;
            }
            now.copyFrom(before);
            next = latest;
            size--;
            return true;
        }

        private Row rowAt(int k) {
            return k >= 0 && k < rows.length ? rows[k] : null;
        }
    }

    /** The input buffer, and the reading of a setup text in it. */
    static final class SetupReader {
        private final int[] text = new int[TEXT_BYTES];
        int size;
        /** A text with an error must leave all as it is, so each text is carried out here first. */
        final Row draft = new Row();
        int error;
        int errorAt;
        private int length;
        /** Spaces are skipped behind each token, so the next token or the end is always here. */
        private int position;
        private int number;
        private int numberAt;
        private int first;
        private int second;

        void addWord(int word) {
            for (int shift = 24; shift >= 0; shift -= 8) {
                if (size >= 0 && size < text.length) {
                    text[size] = (word >>> shift) & 255;
                    size++;
                }
            }
        }

        int read(int textLength) {
            length = textLength;
            error = NO_ERROR;
            errorAt = -1;
            goTo(0);
            if (!readRule() || !readValues()) {
                return error;
            }
            // No statement is without a byte, so there are fewer of them than bytes.
            for (int statement = 0; statement < TEXT_BYTES && position < length; statement++) {
                int kind = readKind();
                if (!readArguments(kind) || !readSign(';')) {
                    return error;
                }
                carryOut(kind);
            }
            return draft.count;
        }

        private boolean readRule() {
            if (!hasWord("row")) {
                return fail(SYNTAX_ERROR, position);
            }
            if (!readNumber(BUILD_AT_QUESTION, BUILD_WHEN_MANY_WAIT)) {
                return false;
            }
            first = number;
            if (!readNumber(1, GREATEST_MOST)) {
                return false;
            }
            draft.start(first, number);
            return readSign(':');
        }

        private boolean readValues() {
            for (int done = 0; done < MOST_VALUES && (done == 0 || !isNext(';')); done++) {
                if (!readValue()) {
                    return false;
                }
                draft.addAtEnd(number);
            }
            if (!hasSign(';')) {
                return refuseSurplusValue();
            }
            draft.buildAll();
            return true;
        }

        private boolean refuseSurplusValue() {
            int start = position;
            // A number behind the sign is at a greater offset, so what is wrong with it does not count.
            if (isNext('-')) {
                return fail(TOO_MANY, start);
            }
            return readNumber(0, GREATEST_VALUE) && fail(TOO_MANY, start);
        }

        private int readKind() {
            if (hasWord("set")) {
                return SET_STATEMENT;
            }
            if (hasWord("ask")) {
                return ASK_STATEMENT;
            }
            if (hasWord("keep")) {
                return KEEP_STATEMENT;
            }
            if (hasWord("put")) {
                return PUT_STATEMENT;
            }
            if (hasWord("take")) {
                return TAKE_STATEMENT;
            }
            fail(SYNTAX_ERROR, position);
            return NO_STATEMENT;
        }

        private boolean readArguments(int kind) {
            if (kind == NO_STATEMENT || !readFirst(kind)) {
                return false;
            }
            if (kind == TAKE_STATEMENT) {
                return true;
            }
            boolean isStretch = kind == ASK_STATEMENT || kind == KEEP_STATEMENT;
            if (!(isStretch ? readNumber(first, draft.count - 1) : readValue())) {
                return false;
            }
            second = number;
            return true;
        }

        private boolean readFirst(int kind) {
            if (!readNumber(0, kind == PUT_STATEMENT ? draft.count : draft.count - 1)) {
                return false;
            }
            first = number;
            boolean putsTooMany = kind == PUT_STATEMENT && draft.count >= MOST_VALUES;
            boolean keepsTooMany = kind == KEEP_STATEMENT && draft.stretches.count >= MOST_KEPT;
            if (putsTooMany || keepsTooMany) {
                return fail(TOO_MANY, numberAt);
            }
            if (kind == TAKE_STATEMENT && draft.count == 1) {
                return fail(REFUSED, numberAt);
            }
            return true;
        }

        private void carryOut(int kind) {
            switch (kind) {
                case SET_STATEMENT: draft.change(first, second); break;
                case ASK_STATEMENT: draft.question(first, second); break;
                case KEEP_STATEMENT: draft.stretches.add(first, second); break;
                case PUT_STATEMENT: draft.insert(first, second); break;
                case TAKE_STATEMENT: draft.remove(first); break;
                default: break;
            }
        }

        private boolean readValue() {
            boolean negative = hasSign('-');
            if (!readNumber(0, GREATEST_VALUE)) {
                return false;
            }
            number = negative ? -number : number;
            return true;
        }

        private boolean readNumber(int low, int high) {
            if (!isDigit(byteAt(position))) {
                return fail(SYNTAX_ERROR, position);
            }
            numberAt = position;
            number = 0;
            int end = position;
            while (end < length && isDigit(byteAt(end))) {
                // However long the number is, it stays small here, and out of every range all the same.
                number = Math.min(10 * number + byteAt(end) - '0', GREATEST_VALUE + 1);
                end++;
            }
            goTo(end);
            return number >= low && number <= high || fail(OUT_OF_RANGE, numberAt);
        }

        private boolean readSign(char sign) {
            return hasSign(sign) || fail(SYNTAX_ERROR, position);
        }

        private boolean isNext(char sign) {
            return byteAt(position) == sign;
        }

        /** Goes behind the sign if it is the next token. */
        private boolean hasSign(char sign) {
            if (!isNext(sign)) {
                return false;
            }
            goTo(position + 1);
            return true;
        }

        /** Goes behind the word if it is the next token; a longer run of letters is another word. */
        private boolean hasWord(String word) {
            int letters = word.length();
            for (int k = 0; k < letters; k++) {
                if (byteAt(position + k) != word.charAt(k)) {
                    return false;
                }
            }
            if (isLetter(byteAt(position + letters))) {
                return false;
            }
            goTo(position + letters);
            return true;
        }

        private void goTo(int offset) {
            position = offset;
            while (position < length && byteAt(position) == ' ') {
                position++;
            }
        }

        /** -1 behind the text, which is no byte at all. */
        private int byteAt(int offset) {
            return offset >= 0 && offset < length && offset < text.length ? text[offset] : -1;
        }

        private boolean fail(int code, int offset) {
            error = code;
            errorAt = offset;
            return false;
        }

        private static boolean isDigit(int sign) {
            return sign >= '0' && sign <= '9';
        }

        private static boolean isLetter(int sign) {
            return sign >= 'a' && sign <= 'z';
        }
    }
}
