import java.io.IOException;
import java.io.UncheckedIOException;
import java.nio.charset.StandardCharsets;
import java.nio.file.Files;
import java.nio.file.Path;
import java.util.concurrent.Callable;
import java.util.function.Supplier;

/** Compares answers with those that are due, and ends a test. */
final class Check {
    static final Class<IllegalArgumentException> ARGUMENT = IllegalArgumentException.class;
    static final Class<IndexOutOfBoundsException> BOUNDS = IndexOutOfBoundsException.class;
    static final Class<IllegalStateException> STATE = IllegalStateException.class;
    static final Class<java.util.NoSuchElementException> NO_ELEMENT = java.util.NoSuchElementException.class;
    static final int LEAST_INT = Integer.MIN_VALUE;
    static final int GREATEST_INT = Integer.MAX_VALUE;

    private static final Path DOCUMENT = Path.of("../shared/DOC.md");
    private static final int SPACES = 0x20202020;

    private static int compared = 0;
    private static int wrong = 0;
    private static String document = "";
    private static String sentence = "";

    private Check() {
    }

    /** A call that may throw. */
    interface Call {
        Object on(DoubledRows x) throws Exception;
    }

    /** Names the sentence that is tested from here on; the document must hold it, word by word, and once. */
    static void sentence(String words) {
        sentence = words;
        if (document.isEmpty()) {
            document = readDocument();
        }
        int at = document.indexOf(words);
        same("the document holds this sentence", at >= 0, (Object) true);
        same("it stands there once", document.lastIndexOf(words), at);
    }

    private static String readDocument() {
        try {
            return Files.readString(DOCUMENT, StandardCharsets.UTF_8).replaceAll("\\s+", " ");
        } catch (IOException e) {
            throw new UncheckedIOException(e);
        }
    }

    static void same(String call, Object got, Object due) {
        compared++;
        if (!got.equals(due)) {
            wrong++;
            System.out.println(call + " answered " + got + ", due is " + due
                + (sentence.isEmpty() ? "" : " by: " + sentence));
        }
    }

    static void same(String call, long got, long due) {
        same(call, (Object) got, (Object) due);
    }

    static void raises(String call, Class<? extends Exception> due, Callable<?> action) {
        same(call, answer(action), "throws." + due.getSimpleName());
    }

    /** The call throws, and all is as it was: compared with a second object of which it was not asked. */
    static void refused(String call, Class<? extends Exception> due, Supplier<DoubledRows> made, Call action) {
        DoubledRows x = made.get();
        raises(call, due, () -> action.on(x));
        same("all behind " + call, allOf(x), allOf(made.get()));
    }

    /** All that an object tells of itself; it is used up by that. */
    static String allOf(DoubledRows x) {
        StringBuilder all = new StringBuilder("error at " + x.errorOffset() + ", checksum " + x.checksum());
        int left = x.undo();
        for (int times = 0; left >= 0 && times < 20; times++) {
            all.append(", undone: ").append(left).append(" left, checksum ").append(x.checksum());
            left = x.undo();
        }
        int appended = x.append(SPACES, SPACES, SPACES, SPACES, SPACES);
        int length = appended < 0 ? 500 : appended;
        all.append(", buffer ").append(appended).append(" loaded: ").append(answer(() -> x.load(length)));
        return all.append(", error at ").append(x.errorOffset()).append(", checksum ").append(x.checksum()).toString();
    }

    /** What a call answers, or the name of the exception that it throws behind "throws.". */
    static String answer(Callable<?> action) {
        try {
            return String.valueOf(action.call());
        } catch (Exception e) {
            return "throws." + e.getClass().getSimpleName();
        }
    }

    /** An object whose data are those of a setup text. */
    static DoubledRows loaded(String text) {
        DoubledRows rows = new DoubledRows();
        if (load(rows, text) < 0) {
            throw new IllegalArgumentException(text);
        }
        return rows;
    }

    static int load(DoubledRows rows, String text) {
        fill(rows, text);
        return rows.load(text.length());
    }

    /** Appends a text, filled up with spaces to a multiple of 20 bytes. */
    static void fill(DoubledRows rows, String text) {
        for (int start = 0; start < text.length(); start += 20) {
            rows.append(word(text, start), word(text, start + 4), word(text, start + 8), word(text, start + 12),
                    word(text, start + 16));
        }
    }

    private static int word(String text, int start) {
        int word = 0;
        for (int k = start; k < start + 4; k++) {
            word = word << 8 | (k < text.length() ? text.charAt(k) & 255 : ' ');
        }
        return word;
    }

    /** So many values, the first of them 1, the next 2, and so on. */
    static DoubledRows rising(int rule, int count) {
        StringBuilder text = new StringBuilder("row " + rule + " 2:");
        for (int value = 1; value <= count; value++) {
            text.append(value).append(' ');
        }
        return loaded(text.append(';').toString());
    }

    /**
     * An object with something of everything: a place that waits, kept stretches, more changes than can be undone,
     * an error that was told, and a text in the buffer.
     */
    static DoubledRows busy() {
        DoubledRows x = loaded("row 2 2:4 -3 2 1 7;keep 0 3;keep 2 2;ask 0 4;");
        for (int value = 5; value >= 0; value--) {
            x.set(1, value);
        }
        x.ask(0, 2);
        x.keep(4, 4);
        x.forget(0);
        load(x, "row 3 1:1;");
        fill(x, "row 1 3:9 8 7;");
        return x;
    }

    static void states(String when, DoubledRows x, int... due) {
        for (int what = 0; what < due.length; what++) {
            same(when + ": state(" + what + ")", x.state(what), due[what]);
        }
    }

    static void values(String when, DoubledRows x, int... due) {
        same(when + ": values", x.state(0), due.length);
        for (int place = 0; place < due.length; place++) {
            int p = place;
            same(when + ": value(" + place + ")", answer(() -> x.value(p)), String.valueOf(due[place]));
        }
    }

    static void keptOnes(String when, DoubledRows x, int... due) {
        same(when + ": kept stretches", x.state(6), due.length);
        for (int k = 0; k < due.length; k++) {
            int at = k;
            same(when + ": kept(" + k + ")", answer(() -> x.kept(at)), String.valueOf(due[k]));
        }
    }

    static void cells(String when, DoubledRows x, int level, int... due) {
        for (int place = 0; place < due.length; place++) {
            int p = place;
            String call = when + ": cell(" + level + ", " + place + ")";
            same(call, answer(() -> x.cell(level, p)), String.valueOf(due[place]));
        }
        if (due.length < x.state(0)) {
            raises(when + ": one cell more", NO_ELEMENT, () -> x.cell(level, due.length));
        }
    }

    static void end() {
        System.out.println(compared + " answers compared, " + wrong + " wrong");
        if (wrong != 0 || compared == 0) {
            System.exit(1);
        }
    }
}
