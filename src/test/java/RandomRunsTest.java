import java.util.ArrayList;
import java.util.List;

/** Long runs of calls on the program and on the plain model: every answer and every checksum must be the same. */
public final class RandomRunsTest {
    private static final int RUNS = 600;
    /** The last round makes one call more than these, and the checksum at the end is the 512th: no later one is due. */
    private static final int CALLS = 510;
    private static final String[] WORDS = {"set", "ask", "keep", "put", "take"};
    private static final String[] ODD = {"-", ":", ";", " ", "row", "sets", "as", "A", "\t", "\u00ff", "\0", "7", "0",
        "41", "1000", "99999999999999999999", "-1", ",", "keep", "take 0"};

    private long seed;
    private DoubledRows rows;
    private PlainModel model;

    private RandomRunsTest(long seed) {
        this.seed = seed;
    }

    public static void main(String[] args) {
        for (int run = 0; run < RUNS; run++) {
            new RandomRunsTest(run).run();
        }
        Check.end();
    }

    private int below(int bound) {
        seed = seed * 6364136223846793005L + 1442695040888963407L;
        return (int) ((seed >>> 33) % bound);
    }

    private int between(int low, int high) {
        return low + below(high - low + 1);
    }

    private boolean oneIn(int n) {
        return below(n) == 0;
    }

    private void run() {
        rows = new DoubledRows();
        model = new PlainModel();
        int calls = 0;
        while (calls < CALLS) {
            calls += oneIn(40) ? loadText(CALLS - calls) : oneCall();
        }
        Check.same("checksum at the end", rows.checksum(), model.checksum());
    }

    private int place() {
        int n = model.state(0);
        return oneIn(30) ? new int[] {-1, n, n + 1, Integer.MIN_VALUE, Integer.MAX_VALUE, 40}[below(6)] : below(n);
    }

    private int newValue() {
        if (oneIn(25)) {
            return new int[] {-1000, 1000, -999, 999, Integer.MIN_VALUE, Integer.MAX_VALUE}[below(6)];
        }
        return oneIn(3) ? between(-999, 999) : between(-3, 3);
    }

    private int[] stretch() {
        int a = place();
        int b = place();
        return oneIn(20) ? new int[] {a, b} : new int[] {Math.min(a, b), Math.max(a, b)};
    }

    private int oneCall() {
        int[] s = stretch();
        int p = place();
        int v = newValue();
        int k = oneIn(20) ? new int[] {-1, 8, Integer.MIN_VALUE}[below(3)] : below(1 + model.state(6));
        int level = oneIn(20) ? new int[] {-1, 6, 31, 32, 33, Integer.MAX_VALUE}[below(6)] : below(7);
        int what = between(-1, 11);
        switch (below(34)) {
            case 0, 1, 2, 3: compare("set", () -> rows.set(p, v), () -> model.set(p, v), p, v); break;
            case 4, 5: compare("ask", () -> rows.ask(s[0], s[1]), () -> model.ask(s[0], s[1]), s); break;
            case 6, 7: compare("keep", () -> rows.keep(s[0], s[1]), () -> model.keep(s[0], s[1]), s); break;
            case 8: compare("forget", () -> rows.forget(k), () -> model.forget(k), k); break;
            case 9: sweep(oneIn(4) ? new int[] {-1000, 1001, 1000, -999}[below(4)] : between(-900, 10)); break;
            case 10, 11, 12: put(oneIn(9) ? model.state(0) : p, v); break;
            case 13: compare("take", () -> rows.take(p), () -> model.take(p), p); break;
            case 14: setRule(between(-1, 3), between(-1, 9)); break;
            case 15: compare("undo", () -> rows.undo(), () -> model.undo()); break;
            case 16: compare("state", () -> rows.state(what), () -> model.state(what), what); break;
            case 17: compare("value", () -> rows.value(p), () -> model.value(p), p); break;
            case 18, 19: compare("cell", () -> rows.cell(level, p), () -> model.cell(level, p), level, p); break;
            case 20: compare("waits", () -> rows.waits(p), () -> model.waits(p), p); break;
            case 21: compare("least", () -> rows.least(s[0], s[1]), () -> model.least(s[0], s[1]), s); break;
            case 22: compare("looks", () -> rows.looks(s[0], s[1]), () -> model.looks(s[0], s[1]), s); break;
            case 23: compare("writes", () -> rows.writes(), () -> model.writes()); break;
            case 24: compare("above", () -> rows.above(p), () -> model.above(p), p); break;
            case 25: compare("lessBehind", () -> rows.lessBehind(p), () -> model.lessBehind(p), p); break;
            case 26: compare("rules", () -> rows.rules(p), () -> model.rules(p), p); break;
            case 27: compare("sum", () -> rows.sum(s[0], s[1]), () -> model.sum(s[0], s[1]), s); break;
            case 28: compare("kept", () -> rows.kept(k), () -> model.kept(k), k); break;
            case 29: compare("looksOfKept", () -> rows.looksOfKept(), () -> model.looksOfKept()); break;
            case 30: compare("bestRule", () -> rows.bestRule(p), () -> model.bestRule(p), p); break;
            case 31: compare("ranked", () -> rows.ranked(p), () -> model.ranked(p), p); break;
            case 32: compare("gap", () -> rows.gap(), () -> model.gap()); break;
            default: compare("costOfOne", () -> rows.costOfOne(), () -> model.costOfOne()); break;
        }
        compare("checksum", () -> rows.checksum(), () -> model.checksum());
        return 2;
    }

    private void sweep(int limit) {
        compare("sweep", () -> rows.sweep(limit), () -> model.sweep(limit), limit);
    }

    private void put(int place, int value) {
        compare("put", () -> rows.put(place, value), () -> model.put(place, value), place, value);
    }

    private void setRule(int what, int value) {
        compare("rule", () -> rows.rule(what, value), () -> model.rule(what, value), what, value);
    }

    private void compare(String name, java.util.concurrent.Callable<?> got, java.util.concurrent.Callable<?> due,
            int... arguments) {
        Check.same(name + java.util.Arrays.toString(arguments), Check.answer(got), Check.answer(due));
    }

    /** Appends a text and loads it; answers how many calls that took. */
    private int loadText(int most) {
        String text = oneIn(3) ? spoiled(goodText()) : goodText();
        int calls = 0;
        for (int at = 0; at < text.length() && calls < most - 2; at += 20) {
            int[] w = new int[5];
            for (int k = 0; k < 20; k++) {
                w[k / 4] = w[k / 4] << 8 | (at + k < text.length() ? text.charAt(at + k) : ' ');
            }
            compare("append", () -> rows.append(w[0], w[1], w[2], w[3], w[4]), () -> model.append(w), w);
            calls++;
        }
        int length = oneIn(12) ? between(-1, 520) : text.length();
        compare("load of " + text, () -> rows.load(length), () -> model.load(length), length);
        compare("errorOffset of " + text, () -> rows.errorOffset(), () -> model.errorOffset());
        return calls + 2;
    }

    private String goodText() {
        int n = oneIn(3) ? between(36, 40) : between(1, 9);
        StringBuilder text = new StringBuilder("row " + below(3) + " " + between(1, oneIn(2) ? 2 : 8) + ":");
        for (int k = 0; k < n; k++) {
            text.append(between(-9, 9)).append(' ');
        }
        text.append(';');
        int kept = 0;
        for (int left = below(16); left > 0; left--) {
            String word = WORDS[below(5)];
            int a = below(n);
            switch (word) {
                case "set" -> text.append("set " + a + " " + between(-99, 99));
                case "put" -> text.append("put " + below(n + 1) + " " + between(-99, 99));
                case "take" -> text.append("take " + a);
                default -> text.append(word + " " + a + " " + between(a, n - 1));
            }
            n += word.equals("put") ? 1 : word.equals("take") ? -1 : 0;
            kept += word.equals("keep") ? 1 : 0;
            text.append(oneIn(2) ? "; " : ";");
            if (n == 0 && !oneIn(4) || n > 40 && oneIn(2) || kept > 8 && oneIn(2)) {
                break;
            }
            n = Math.max(1, n);
        }
        return text.toString();
    }

    private String spoiled(String text) {
        List<String> parts = new ArrayList<>(List.of(text.split("")));
        for (int times = between(1, 2); times > 0 && !parts.isEmpty(); times--) {
            int at = below(parts.size());
            if (oneIn(3)) {
                parts.remove(at);
            } else if (oneIn(2)) {
                parts.add(at, ODD[below(ODD.length)]);
            } else if (oneIn(2)) {
                parts.set(at, ODD[below(ODD.length)]);
            } else {
                parts.subList(at, parts.size()).clear();
            }
        }
        return String.join("", parts);
    }
}
