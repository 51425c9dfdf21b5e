import java.math.BigInteger;
import java.util.ArrayDeque;
import java.util.ArrayList;
import java.util.Comparator;
import java.util.Deque;
import java.util.HashMap;
import java.util.List;
import java.util.Map;
import java.util.NoSuchElementException;
import java.util.TreeSet;
import java.util.regex.Matcher;
import java.util.regex.Pattern;

/** The document once more, in the plainest words and with the Java library, to compare answers with. */
final class PlainModel {
    /** All that undo brings back. */
    private static final class Data {
        List<Integer> values = new ArrayList<>();
        Map<List<Integer>, Integer> cells = new HashMap<>();
        TreeSet<Integer> waiting = new TreeSet<>();
        List<List<Integer>> kept = new ArrayList<>();
        int rule;
        int most;
        int looks;
        int writes;
        int questions;
        int builds;

        Data copy() {
            Data c = new Data();
            c.values.addAll(values);
            c.cells.putAll(cells);
            c.waiting.addAll(waiting);
            c.kept.addAll(kept);
            c.rule = rule;
            c.most = most;
            c.looks = looks;
            c.writes = writes;
            c.questions = questions;
            c.builds = builds;
            return c;
        }

        int size() {
            return values.size();
        }

        Comparator<Integer> byValue() {
            return Comparator.<Integer>comparingInt(values::get).thenComparing(Comparator.naturalOrder());
        }

        int least(int from, int to) {
            TreeSet<Integer> places = new TreeSet<>(byValue());
            for (int p = from; p <= to; p++) {
                places.add(p);
            }
            return places.first();
        }

        List<List<Integer>> cellNames() {
            List<List<Integer>> names = new ArrayList<>();
            for (int level = 1, width = 2; width <= size(); level++, width *= 2) {
                for (int p = 0; p + width <= size(); p++) {
                    names.add(List.of(level, p));
                }
            }
            return names;
        }

        boolean tells(List<Integer> cell, int place) {
            return cell.get(1) <= place && place < cell.get(1) + width(cell.get(0));
        }

        int width(int level) {
            return (int) Math.pow(2, level);
        }

        int above(int place) {
            return (int) cellNames().stream().filter(c -> tells(c, place)).count();
        }

        void write(List<Integer> cell) {
            cells.put(cell, least(cell.get(1), cell.get(1) + width(cell.get(0)) - 1));
            writes++;
        }

        void build() {
            cells.clear();
            cellNames().forEach(this::write);
            waiting.clear();
            builds++;
        }

        int set(int place, int value) {
            int old = values.set(place, value);
            if (rule == 1) {
                cellNames().stream().filter(c -> tells(c, place)).forEach(this::write);
                return old;
            }
            waiting.add(place);
            if (rule == 2 && waiting.size() > most) {
                build();
            }
            return old;
        }

        /** The parts of a stretch, each as its first and its last place. */
        static List<int[]> parts(int from, int to, TreeSet<Integer> waiting) {
            List<int[]> parts = new ArrayList<>();
            int p = from;
            while (p <= to) {
                int last = p;
                if (!waiting.contains(p)) {
                    while (last < to && !waiting.contains(last + 1)) {
                        last++;
                    }
                }
                parts.add(new int[] {p, last});
                p = last + 1;
            }
            return parts;
        }

        static int looks(int from, int to, TreeSet<Integer> waiting) {
            int looks = 0;
            for (int[] part : parts(from, to, waiting)) {
                int n = part[1] - part[0] + 1;
                looks += Integer.bitCount(n) == 1 ? 1 : 2;
            }
            return looks;
        }

        TreeSet<Integer> waitingAtQuestion() {
            return rule == 0 ? new TreeSet<>() : waiting;
        }

        int keptLooks(TreeSet<Integer> waiting) {
            return kept.stream().mapToInt(s -> looks(s.get(0), s.get(1), waiting)).sum();
        }

        int told(int level, int place) {
            return level == 0 ? place : cells.get(List.of(level, place));
        }

        int ask(int from, int to) {
            if (rule == 0 && !waiting.isEmpty()) {
                build();
            }
            questions++;
            looks += looks(from, to, waiting);
            TreeSet<Integer> seen = new TreeSet<>(byValue());
            for (int[] part : parts(from, to, waiting)) {
                int level = 31 - Integer.numberOfLeadingZeros(part[1] - part[0] + 1);
                seen.add(told(level, part[0]));
                seen.add(told(level, part[1] - width(level) + 1));
            }
            return seen.first();
        }

        void put(int place, int value) {
            values.add(place, value);
            List<List<Integer>> moved = new ArrayList<>();
            for (List<Integer> s : kept) {
                if (s.get(0) >= place) {
                    moved.add(List.of(s.get(0) + 1, s.get(1) + 1));
                } else if (s.get(1) >= place) {
                    moved.add(List.of(s.get(0), s.get(1) + 1));
                } else {
                    moved.add(s);
                }
            }
            kept = moved;
            build();
        }

        int take(int place) {
            int old = values.remove(place);
            List<List<Integer>> moved = new ArrayList<>();
            for (List<Integer> s : kept) {
                if (s.get(0) > place) {
                    moved.add(List.of(s.get(0) - 1, s.get(1) - 1));
                } else if (s.get(1) >= place) {
                    if (!s.get(0).equals(s.get(1))) {
                        moved.add(List.of(s.get(0), s.get(1) - 1));
                    }
                } else {
                    moved.add(s);
                }
            }
            kept = moved;
            build();
            return old;
        }
    }

    /** The first error of a text, thrown by its reader. */
    private static final class TextError extends Exception {
        private static final long serialVersionUID = 1;
        final int code;
        final int offset;

        TextError(int code, int offset) {
            this.code = code;
            this.offset = offset;
        }
    }

    private static final class Reader {
        private static final Pattern TOKEN = Pattern.compile(" *([a-z]+|[0-9]+|[-:;])?");
        final String text;
        int at = 0;
        int start;
        String token;
        final Data data = new Data();

        Reader(String text) {
            this.text = text;
            next();
        }

        private void next() {
            Matcher m = TOKEN.matcher(text).region(at, text.length());
            m.lookingAt();
            token = m.group(1) == null ? "" : m.group(1);
            start = m.end() - token.length();
            at = m.end();
        }

        private boolean is(String wanted) {
            return token.equals(wanted);
        }

        private void demand(String wanted) throws TextError {
            if (!is(wanted)) {
                throw new TextError(DoubledRows.SYNTAX_ERROR, start);
            }
            next();
        }

        private int number(int low, int high) throws TextError {
            if (!token.matches("[0-9]+")) {
                throw new TextError(DoubledRows.SYNTAX_ERROR, start);
            }
            BigInteger n = new BigInteger(token);
            if (n.compareTo(BigInteger.valueOf(low)) < 0 || n.compareTo(BigInteger.valueOf(high)) > 0) {
                throw new TextError(DoubledRows.OUT_OF_RANGE, start);
            }
            next();
            return n.intValue();
        }

        private int value() throws TextError {
            if (is("-")) {
                next();
                return -number(0, 999);
            }
            return number(0, 999);
        }

        Data read() throws TextError {
            demand("row");
            data.rule = number(0, 2);
            data.most = number(1, 8);
            demand(":");
            do {
                int begin = start;
                if (data.size() == 40 && is("-")) {
                    throw new TextError(DoubledRows.TOO_MANY, begin);
                }
                data.values.add(value());
                if (data.size() == 41) {
                    throw new TextError(DoubledRows.TOO_MANY, begin);
                }
            } while (!is(";"));
            next();
            data.build();
            while (!token.isEmpty() || start < text.length()) {
                statement();
                demand(";");
            }
            return data;
        }

        /** Every statement is carried out ahead of its ";": behind an error the data are thrown away. */
        private void statement() throws TextError {
            String word = token;
            if (!List.of("set", "ask", "keep", "put", "take").contains(word)) {
                throw new TextError(DoubledRows.SYNTAX_ERROR, start);
            }
            next();
            int begin = start;
            int last = data.size() - 1;
            int a = number(0, word.equals("put") ? last + 1 : last);
            if (word.equals("put") && data.size() == 40 || word.equals("keep") && data.kept.size() == 8) {
                throw new TextError(DoubledRows.TOO_MANY, begin);
            }
            if (word.equals("take") && data.size() == 1) {
                throw new TextError(DoubledRows.REFUSED, begin);
            }
            switch (word) {
                case "set" -> data.set(a, value());
                case "ask" -> data.ask(a, number(a, last));
                case "keep" -> data.kept.add(List.of(a, number(a, last)));
                case "put" -> data.put(a, value());
                default -> data.take(a);
            }
        }
    }

    private Data data = new Data();
    private final Deque<Data> earlier = new ArrayDeque<>();
    private final StringBuilder buffer = new StringBuilder();
    private int errorOffset = -1;

    PlainModel() {
        data.most = 2;
        data.values.add(0);
        data.build();
    }

    private void change() {
        earlier.addLast(data.copy());
        if (earlier.size() > 8) {
            earlier.removeFirst();
        }
    }

    private static void demand(boolean fine, RuntimeException otherwise) {
        if (!fine) {
            throw otherwise;
        }
    }

    private void demandPlaces(int... places) {
        for (int p : places) {
            demand(p >= 0 && p < data.size(), new IndexOutOfBoundsException());
        }
    }

    private void demandStretch(int from, int to) {
        demandPlaces(from, to);
        demand(from <= to, new IllegalArgumentException());
    }

    private void demandValue(int value) {
        demand(Math.abs((long) value) <= 999, new IllegalArgumentException());
    }

    private void demandKept(int k) {
        demand(k >= 0 && k < data.kept.size(), new NoSuchElementException());
    }

    int append(int... words) {
        if (buffer.length() + 20 > 500) {
            return -1;
        }
        for (int w : words) {
            buffer.append((char) (w >> 24 & 255)).append((char) (w >> 16 & 255));
            buffer.append((char) (w >> 8 & 255)).append((char) (w & 255));
        }
        return buffer.length();
    }

    int load(int length) {
        demand(length >= 0 && length <= buffer.length(), new IllegalArgumentException());
        String text = buffer.substring(0, length);
        buffer.setLength(0);
        try {
            Data read = new Reader(text).read();
            change();
            data = read;
            errorOffset = -1;
            return data.size();
        } catch (TextError e) {
            errorOffset = e.offset;
            return e.code;
        }
    }

    int errorOffset() {
        return errorOffset;
    }

    int state(int what) {
        demand(what >= 0 && what <= 10, new IllegalArgumentException());
        int levels = 1 + data.cellNames().stream().mapToInt(c -> c.get(0)).max().orElse(0);
        return new int[] {data.size(), data.rule, data.most, levels, data.cellNames().size(), data.waiting.size(),
            data.kept.size(), data.looks, data.writes, data.questions, data.builds}[what];
    }

    int value(int place) {
        demandPlaces(place);
        return data.values.get(place);
    }

    int cell(int level, int place) {
        demandPlaces(place);
        demand(level == 0 || data.cellNames().contains(List.of(level, place)), new NoSuchElementException());
        return data.told(level, place);
    }

    boolean waits(int place) {
        demandPlaces(place);
        return data.waiting.contains(place);
    }

    int least(int from, int to) {
        demandStretch(from, to);
        return data.least(from, to);
    }

    int looks(int from, int to) {
        demandStretch(from, to);
        return Data.looks(from, to, data.waitingAtQuestion());
    }

    int writes() {
        Data asked = data.copy();
        asked.ask(0, 0);
        return asked.writes - data.writes;
    }

    int above(int place) {
        demandPlaces(place);
        return data.above(place);
    }

    int lessBehind(int place) {
        demandPlaces(place);
        for (int p = place; p < data.size(); p++) {
            if (data.values.get(p) < data.values.get(place)) {
                return p;
            }
        }
        return -1;
    }

    int rules(int place) {
        demandPlaces(place);
        int stretches = 0;
        for (int from = 0; from <= place; from++) {
            for (int to = place; to < data.size(); to++) {
                stretches += data.least(from, to) == place ? 1 : 0;
            }
        }
        return stretches;
    }

    int sum(int from, int to) {
        demandStretch(from, to);
        return data.values.subList(from, to + 1).stream().mapToInt(v -> v).sum();
    }

    int kept(int k) {
        demandKept(k);
        return 100 * data.kept.get(k).get(0) + data.kept.get(k).get(1);
    }

    int looksOfKept() {
        return data.keptLooks(data.waitingAtQuestion());
    }

    /** Carries out what would be, by each rule, on a copy. */
    int bestRule(int place) {
        demandPlaces(place);
        int best = -1;
        int bestCost = Integer.MAX_VALUE;
        for (int rule = 0; rule < 3; rule++) {
            Data would = data.copy();
            would.build();
            would.rule = rule;
            would.writes = 0;
            would.looks = 0;
            would.set(place, would.values.get(place));
            would.kept.forEach(s -> would.ask(s.get(0), s.get(1)));
            if (would.writes + would.looks < bestCost) {
                best = rule;
                bestCost = would.writes + would.looks;
            }
        }
        return best;
    }

    int ranked(int rank) {
        demand(rank >= 0 && rank < data.size(), new NoSuchElementException());
        List<Integer> places = new ArrayList<>();
        for (int p = 0; p < data.size(); p++) {
            places.add(p);
        }
        places.sort(Comparator.comparingInt(data.values::get));
        return places.get(rank);
    }

    int gap() {
        return 0;
    }

    float costOfOne() {
        return data.questions == 0 ? 0f : (float) (data.looks + data.writes) / (float) data.questions;
    }

    int set(int place, int value) {
        demandPlaces(place);
        demandValue(value);
        change();
        return data.set(place, value);
    }

    int ask(int from, int to) {
        demandStretch(from, to);
        change();
        return data.ask(from, to);
    }

    int keep(int from, int to) {
        demandStretch(from, to);
        demand(data.kept.size() < 8, new IllegalStateException());
        change();
        data.kept.add(List.of(from, to));
        return data.kept.size();
    }

    int forget(int k) {
        demandKept(k);
        change();
        data.kept.remove(k);
        return data.kept.size();
    }

    int sweep(int limit) {
        demand(limit >= -999 && limit <= 1000, new IllegalArgumentException());
        change();
        int before = data.kept.size();
        data.kept.removeIf(s -> data.values.get(data.ask(s.get(0), s.get(1))) < limit);
        return before - data.kept.size();
    }

    int put(int place, int value) {
        demand(place >= 0 && place <= data.size(), new IndexOutOfBoundsException());
        demandValue(value);
        demand(data.size() < 40, new IllegalStateException());
        change();
        data.put(place, value);
        return data.size();
    }

    int take(int place) {
        demandPlaces(place);
        demand(data.size() > 1, new IllegalStateException());
        change();
        return data.take(place);
    }

    int rule(int what, int value) {
        demand(what == 1 && value >= 0 && value <= 2 || what == 2 && value >= 1 && value <= 8,
            new IllegalArgumentException());
        change();
        int old = what == 1 ? data.rule : data.most;
        if (what == 1) {
            data.rule = value;
            data.build();
        } else {
            data.most = value;
        }
        return old;
    }

    int undo() {
        if (earlier.isEmpty()) {
            return -1;
        }
        data = earlier.removeLast();
        return earlier.size();
    }

    long checksum() {
        List<Integer> numbers = new ArrayList<>();
        for (int what = 0; what <= 10; what++) {
            numbers.add(state(what));
        }
        for (int p = 0; p < data.size(); p++) {
            numbers.add(value(p));
            numbers.add(waits(p) ? 1 : 0);
        }
        data.cellNames().forEach(c -> numbers.add(data.cells.get(c)));
        for (int k = 0; k < data.kept.size(); k++) {
            numbers.add(kept(k));
        }
        long sum = 0;
        for (int n : numbers) {
            sum = sum * 31 + n;
        }
        return sum;
    }
}
