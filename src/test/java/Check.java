import java.util.concurrent.Callable;

/** Compares answers with those that are due, and ends a test. */
final class Check {
    private static int compared = 0;
    private static int wrong = 0;

    private Check() {
    }

    static void same(String call, Object got, Object due) {
        compared++;
        if (!got.equals(due)) {
            wrong++;
            System.out.println(call + " answered " + got + ", due is " + due);
        }
    }

    static void same(String call, long got, long due) {
        same(call, (Object) got, (Object) due);
    }

    static void raises(String call, Class<? extends Exception> due, Callable<?> action) {
        same(call, answer(action), "throws." + due.getSimpleName());
    }

    /** What a call answers, or the name of the exception that it throws behind "throws.". */
    static String answer(Callable<?> action) {
        try {
            return String.valueOf(action.call());
        } catch (Exception e) {
            return "throws." + e.getClass().getSimpleName();
        }
    }

    /** An object whose data are those of a setup text. */
    static DoubledRows loaded(String text) {
        DoubledRows rows = new DoubledRows();
        if (load(rows, text) < 0) {
            throw new IllegalArgumentException(text);
        }
        return rows;
    }

    static int load(DoubledRows rows, String text) {
        fill(rows, text);
        return rows.load(text.length());
    }

    /** Appends a text, filled up with spaces to a multiple of 20 bytes. */
    static void fill(DoubledRows rows, String text) {
        for (int start = 0; start < text.length(); start += 20) {
            rows.append(word(text, start), word(text, start + 4), word(text, start + 8), word(text, start + 12),
                    word(text, start + 16));
        }
    }

    private static int word(String text, int start) {
        int word = 0;
        for (int k = start; k < start + 4; k++) {
            word = word << 8 | (k < text.length() ? text.charAt(k) & 255 : ' ');
        }
        return word;
    }

    static void end() {
        System.out.println(compared + " answers compared, " + wrong + " wrong");
        if (wrong != 0 || compared == 0) {
            System.exit(1);
        }
    }
}
