import java.util.function.Supplier;

/**
 * Each sentence in 'What it is' and, of 'Terms', in 'Conventions', 'Values and cells', 'Changes and rules' and
 * 'Questions', one test each: at the boundary that it names, and next to it on either side.
 */
public final class RowBoundariesTest {
    private static final int[] SIZES = {1, 2, 3, 4, 5, 7, 8, 9, 15, 16, 17, 31, 32, 33, 39, 40};

    private RowBoundariesTest() {
    }

    public static void main(String[] args) {
        whatItIs();
        the512thCall();
        leastIsInTheStretch();
        placesFrom0();
        stretches();
        numberOfValues();
        sizeOfValues();
        oneCellForEachPlace();
        leftmostOfSeveral();
        levelZero();
        levelsWithCells();
        buildWritesAllCells();
        waitingAndOldCells();
        ruleZero();
        ruleOne();
        ruleTwo();
        setToTheSame();
        whenAllIsBuilt();
        mostAlone();
        leastValueOfAStretch();
        builtFirstIfSomeWait();
        partsOfAStretch();
        oneLookForOneThatWaits();
        looksOfARun();
        firstAndLastLook();
        leastOfAllSeen();
        Check.end();
    }

    /** A text with so many values, all the same. */
    private static String textOf(String row, int count, int value) {
        return row + ":" + (value + " ").repeat(count) + ";";
    }

    private static DoubledRows of(int rule, int most, int... values) {
        StringBuilder text = new StringBuilder("row " + rule + " " + most + ":");
        for (int value : values) {
            text.append(value).append(' ');
        }
        return Check.loaded(text.append(';').toString());
    }

    private static int cellsOf(int count) {
        int cells = 0;
        for (int width = 2; width <= count; width *= 2) {
            cells += count - width + 1;
        }
        return cells;
    }

    private static int cellsThatTellOf(int count, int place) {
        int cells = 0;
        for (int width = 2; width <= count; width *= 2) {
            for (int first = 0; first + width <= count; first++) {
                cells += first <= place && place < first + width ? 1 : 0;
            }
        }
        return cells;
    }

    private static int leastByHand(int[] values, int from, int to) {
        int told = from;
        for (int place = from + 1; place <= to; place++) {
            told = values[place] < values[told] ? place : told;
        }
        return told;
    }

    private static int[] valuesOf(DoubledRows x, int count) {
        int[] values = new int[count];
        for (int place = 0; place < count; place++) {
            values[place] = x.value(place);
        }
        return values;
    }

    private static void whatItIs() {
        Check.sentence("A row of values that is asked for the least of a stretch by two looks into rows of doubled"
            + " widths: cells that tell the least of so many values, looks that overlap, ties by the left, values that"
            + " change, cells that are written anew at once, at the next question, or when too many changes wait,"
            + " stretches that are kept and asked together, values put in and taken out, what all this costs, and what"
            + " would be.");
        int[] writtenBySet = {0, 4, 0};
        int[] writtenByTwo = {0, 8, 6};
        int[] writtenByAsk = {6, 8, 6};
        for (int rule = 0; rule <= 2; rule++) {
            DoubledRows x = of(rule, 1, 5, 3, 8, 3, 7);
            String by = "by rule " + rule + ": ";
            Check.cells(by + "cells", x, 1, 1, 1, 3, 3);
            Check.cells(by + "cells", x, 2, 1, 1);
            Check.same(by + "two looks that overlap, a tie", x.ask(0, 4), 1);
            Check.same(by + "two looks", x.state(7), 2);
            Check.same(by + "a value changes", x.set(1, 6), 3);
            Check.same(by + "written at once", x.state(8) - 6, writtenBySet[rule]);
            Check.same(by + "what would be written", x.writes(), rule == 0 ? 6 : 0);
            Check.same(by + "another one changes", x.set(1, 9) + x.set(3, 9), 6 + 3);
            Check.same(by + "too many changes wait", x.state(8) - 6 - writtenBySet[rule], writtenByTwo[rule]);
            Check.same(by + "a question behind them", x.ask(0, 4), 0);
            Check.same(by + "all that was written", x.state(8) - 6 - writtenBySet[rule], writtenByAsk[rule]);
            Check.same(by + "a stretch is kept, and a second one", x.keep(0, 4) * 10 + x.keep(2, 3), 12);
            Check.same(by + "a value is put in", x.put(0, 4), 6);
            Check.same(by + "a value is taken out", x.take(5), 7);
            Check.keptOnes(by + "kept", x, 104, 304);
            Check.same(by + "what they would cost", x.looksOfKept(), 2);
            Check.same(by + "they are asked together", x.sweep(6) * 10 + x.state(9), 14);
        }
    }

    private static void the512thCall() {
        Check.sentence("An object is used for at most 512 calls after it has been made; what later calls answer is"
            + " free.");
        DoubledRows x = new DoubledRows();
        String text = textOf("row 0 1", 40, 7);
        Check.fill(x, text);
        Check.same("call 6", x.load(text.length()), 40);
        int before = 0;
        for (int call = 7; call <= 509; call++) {
            Check.same("call " + call, x.rule(1, call % 3), before);
            before = call % 3;
        }
        Check.same("call 510", x.state(10), 1 + 503);
        Check.same("call 511", x.state(8), 143 * (1 + 503));
        Check.same("call 512", x.undo(), 7);
    }

    private static void leastIsInTheStretch() {
        Check.sentence("The least that is told is in the stretch.");
        for (int rule = 0; rule <= 2; rule++) {
            for (int from = 0; from < 6; from++) {
                for (int to = from; to < 6; to++) {
                    DoubledRows x = of(rule, 8, 9, 9, 9, 9, 9, 9);
                    for (int place = 0; place < 6; place++) {
                        if (place == from - 1 || place == to + 1) {
                            x.set(place, -9);
                        }
                    }
                    String stretch = "(" + from + ", " + to + ") by rule " + rule;
                    Check.same("ask" + stretch, x.ask(from, to), from);
                    Check.same("least" + stretch, x.least(from, to), from);
                }
            }
        }
    }

    private static void placesFrom0() {
        Check.sentence("Places in the row are counted from 0.");
        for (int n : new int[] {1, 2, 39, 40}) {
            DoubledRows x = Check.rising(0, n);
            Check.same("value(0) of " + n, x.value(0), 1);
            Check.same("value(n - 1) of " + n, x.value(n - 1), n);
            Check.raises("value(-1) of " + n, Check.BOUNDS, () -> x.value(-1));
            Check.raises("value(n) of " + n, Check.BOUNDS, () -> x.value(n));
        }
    }

    private static void stretches() {
        Check.sentence("A stretch is from a place to a place (both too), the first not greater than the second.");
        DoubledRows x = of(2, 8, 3, 5, 1, 4);
        Check.same("sum(1, 1)", x.sum(1, 1), 5);
        Check.same("sum(1, 2)", x.sum(1, 2), 6);
        Check.same("sum(0, 3)", x.sum(0, 3), 13);
        Check.same("least(1, 1)", x.least(1, 1), 1);
        Check.same("least(0, 1)", x.least(0, 1), 0);
        Check.same("least(1, 2)", x.least(1, 2), 2);
        Check.same("looks(1, 1)", x.looks(1, 1), 1);
        Check.same("looks(1, 3)", x.looks(1, 3), 2);
        Check.same("ask(1, 1)", x.ask(1, 1), 1);
        Check.same("ask(0, 1)", x.ask(0, 1), 0);
        Check.same("ask(1, 2)", x.ask(1, 2), 2);
        Check.same("keep(1, 1)", x.keep(1, 1), 1);
        Check.same("keep(0, 3)", x.keep(0, 3), 2);
        Check.keptOnes("both too", x, 101, 3);
        Check.raises("sum(2, 1)", Check.ARGUMENT, () -> x.sum(2, 1));
        Check.raises("least(2, 1)", Check.ARGUMENT, () -> x.least(2, 1));
        Check.raises("looks(2, 1)", Check.ARGUMENT, () -> x.looks(2, 1));
        Check.raises("ask(2, 1)", Check.ARGUMENT, () -> x.ask(2, 1));
        Check.raises("keep(2, 1)", Check.ARGUMENT, () -> x.keep(2, 1));
    }

    private static void numberOfValues() {
        Check.sentence("There are 1 to 40 values (-999 to 999) in the row.");
        DoubledRows read = new DoubledRows();
        Check.same("a text of no value", Check.load(read, "row 0 1:;"), DoubledRows.SYNTAX_ERROR);
        for (int n : new int[] {1, 2, 39, 40}) {
            Check.same("a text of " + n, Check.load(read, textOf("row 0 1", n, 7)), n);
            Check.same("state(0) of " + n, read.state(0), n);
        }
        Check.same("a text of 41", Check.load(read, textOf("row 0 1", 41, 7)), DoubledRows.TOO_MANY);
        DoubledRows x = Check.rising(0, 38);
        Check.same("put a 39th", x.put(0, 1), 39);
        Check.same("put a 40th", x.put(0, 1), 40);
        Check.refused("put a 41st", Check.STATE, () -> Check.rising(0, 40), y -> y.put(0, 1));
        DoubledRows few = Check.rising(0, 3);
        Check.same("take one of 3", few.take(0), 1);
        Check.same("take one of 2", few.take(0), 2);
        Check.refused("take the only one", Check.STATE, () -> Check.loaded("row 0 1:5;"), y -> y.take(0));
    }

    private static void sizeOfValues() {
        Check.sentence("There are 1 to 40 values (-999 to 999) in the row.");
        for (int v : new int[] {-999, -998, 0, 998, 999}) {
            DoubledRows x = Check.loaded("row 0 1:" + v + ";");
            Check.same("value(0) of a text with " + v, x.value(0), v);
            x.set(0, 1);
            x.set(0, v);
            Check.same("value(0) behind set(0, " + v + ")", x.value(0), v);
            Check.same("put(1, " + v + ")", x.put(1, v), 2);
            Check.same("value(1) behind put(1, " + v + ")", x.value(1), v);
        }
        for (int v : new int[] {-1001, -1000, 1000, 1001}) {
            DoubledRows read = new DoubledRows();
            Check.same("a text with " + v, Check.load(read, "row 0 1:" + v + ";"), DoubledRows.OUT_OF_RANGE);
            Check.refused("set(0, " + v + ")", Check.ARGUMENT, Check::busy, x -> x.set(0, v));
            Check.refused("put(0, " + v + ")", Check.ARGUMENT, Check::busy, x -> x.put(0, v));
        }
    }

    private static void oneCellForEachPlace() {
        Check.sentence("On level k, from 1 on, there is a cell for each place from which 2 to the power k values are"
            + " in the row:");
        for (int n = 1; n <= 40; n++) {
            DoubledRows x = Check.rising(0, n);
            for (int level = 1; level <= 6; level++) {
                for (int place = 0; place < n; place++) {
                    boolean isCell = place + Math.pow(2, level) <= n;
                    int k = level;
                    int p = place;
                    // The values rise, so each cell tells its first place.
                    Check.same("cell(" + k + ", " + p + ") of " + n, Check.answer(() -> x.cell(k, p)),
                        isCell ? String.valueOf(p) : "throws.NoSuchElementException");
                }
            }
        }
    }

    private static void leftmostOfSeveral() {
        Check.sentence("it tells the place of the least value of these, of several the leftmost one.");
        DoubledRows same = of(0, 1, 5, 5, 5, 5, 5);
        Check.cells("all the same", same, 1, 0, 1, 2, 3);
        Check.cells("all the same", same, 2, 0, 1);
        DoubledRows falling = of(0, 1, 5, 4, 3, 2, 1);
        Check.cells("the least is the last one", falling, 1, 1, 2, 3, 4);
        Check.cells("the least is the last one", falling, 2, 3, 4);
        DoubledRows rising = of(0, 1, 1, 2, 3, 4, 5);
        Check.cells("the least is the first one", rising, 1, 0, 1, 2, 3);
        Check.cells("the least is the first one", rising, 2, 0, 1);
        DoubledRows ends = of(0, 1, 1, 2, 2, 1, 0);
        Check.cells("the same at both ends", ends, 1, 0, 1, 3, 4);
        Check.cells("the same at both ends", ends, 2, 0, 4);
        DoubledRows middle = of(0, 1, 2, 1, 1, 2, 2);
        Check.cells("the same next to the middle", middle, 2, 1, 1);
    }

    private static void levelZero() {
        Check.sentence("On level 0 each place is its own cell, and nothing is written there.");
        for (int n : SIZES) {
            DoubledRows x = of(1, 1, new int[n]);
            Check.same("cell(0, 0) of " + n, x.cell(0, 0), 0);
            Check.same("cell(0, n - 1) of " + n, x.cell(0, n - 1), n - 1);
            Check.raises("cell(0, n) of " + n, Check.BOUNDS, () -> x.cell(0, n));
        }
        DoubledRows one = Check.loaded("row 1 1:5;set 0 4;");
        Check.states("one value, built and set", one, 1, 1, 1, 1, 0, 0, 0, 0, 0, 0, 1);
        DoubledRows two = Check.loaded("row 1 1:5 4;set 0 3;");
        Check.states("two values, built and set", two, 2, 1, 1, 2, 1, 0, 0, 0, 2, 0, 1);
    }

    private static void levelsWithCells() {
        Check.sentence("The levels are those on which there are cells (level 0 always).");
        int[] due = {1, 2, 2, 3, 3, 3, 4, 4, 4, 5, 5, 5, 6, 6, 6, 6};
        for (int k = 0; k < SIZES.length; k++) {
            Check.same("levels of " + SIZES[k], Check.rising(0, SIZES[k]).state(3), due[k]);
        }
        DoubledRows x = Check.rising(0, 7);
        x.put(7, 0);
        Check.same("levels behind put of an 8th", x.state(3), 4);
        x.take(0);
        Check.same("levels behind take of one of 8", x.state(3), 3);
    }

    private static void buildWritesAllCells() {
        Check.sentence("To build means to write all cells on the levels from 1 on.");
        for (int n = 1; n <= 40; n++) {
            DoubledRows x = Check.rising(0, n);
            Check.same("cells of " + n, x.state(4), cellsOf(n));
            Check.same("written for " + n, x.state(8), cellsOf(n));
            x.rule(1, 0);
            Check.same("written for " + n + " again", x.state(8), 2 * cellsOf(n));
        }
    }

    private static void waitingAndOldCells() {
        Check.sentence("Places can wait: a value there was changed, and cells may tell of the old one.");
        for (int rule = 0; rule <= 2; rule += 2) {
            DoubledRows x = of(rule, 8, 5, 4, 5, 5);
            x.set(1, 9);
            Check.cells("by rule " + rule, x, 1, 1, 1, 2);
            Check.cells("by rule " + rule, x, 2, 1);
            Check.same("waits(0)", x.waits(0), (Object) false);
            Check.same("waits(1)", x.waits(1), (Object) true);
            Check.same("waits(2)", x.waits(2), (Object) false);
            Check.same("value(1)", x.value(1), 9);
        }
    }

    private static void ruleZero() {
        Check.sentence("By rule 0 a place at which a value is set waits; ahead of the next question all is built, and"
            + " none waits any more.");
        DoubledRows x = of(0, 1, new int[40]);
        for (int place = 0; place < 40; place++) {
            x.set(place, -place);
            Check.same("places that wait", x.state(5), place + 1);
        }
        Check.states("all 40 wait", x, 40, 0, 1, 6, 143, 40, 0, 0, 143, 0, 1);
        Check.same("waits(39)", x.waits(39), (Object) true);
        Check.same("ask(0, 0)", x.ask(0, 0), 0);
        Check.states("behind a question", x, 40, 0, 1, 6, 143, 0, 0, 1, 286, 1, 2);
        Check.same("waits(39) behind a question", x.waits(39), (Object) false);
        x.ask(0, 0);
        Check.states("behind a second one", x, 40, 0, 1, 6, 143, 0, 0, 2, 286, 2, 2);
        DoubledRows swept = Check.loaded("row 0 1:3 2;keep 0 0;keep 0 1;set 1 4;");
        Check.same("sweep asks, too", swept.sweep(0), 0);
        Check.states("behind a sweep", swept, 2, 0, 1, 2, 1, 0, 2, 2, 2, 2, 2);
    }

    private static void ruleOne() {
        Check.sentence("By rule 1, when a value is set, all cells on the levels from 1 on that tell of its place are"
            + " written at once.");
        for (int n : SIZES) {
            for (int place = 0; place < n; place++) {
                DoubledRows x = of(1, 1, new int[n]);
                x.set(place, -1);
                String when = "set(" + place + ", -1) of " + n;
                Check.same(when + ": written", x.state(8) - cellsOf(n), cellsThatTellOf(n, place));
                Check.same(when + ": waiting", x.state(5), 0);
                Check.same(when + ": built", x.state(10), 1);
                cellsAreRight(when, x, n);
                x.set(place, 1);
                cellsAreRight(when + " and set back", x, n);
            }
        }
    }

    private static void cellsAreRight(String when, DoubledRows x, int n) {
        int[] values = valuesOf(x, n);
        for (int level = 1; 1 << level <= n; level++) {
            for (int first = 0; first + (1 << level) <= n; first++) {
                int due = leastByHand(values, first, first + (1 << level) - 1);
                Check.same(when + ": cell(" + level + ", " + first + ")", x.cell(level, first), due);
            }
        }
    }

    private static void ruleTwo() {
        Check.sentence("By rule 2 a place at which a value is set waits; if more than most (1 to 8) places wait then,"
            + " all is built, and none waits any more.");
        for (int most = 1; most <= 8; most++) {
            DoubledRows x = of(2, most, new int[10]);
            for (int place = 0; place < most; place++) {
                x.set(place, 1);
                Check.same("most " + most + ": places that wait", x.state(5), place + 1);
            }
            x.set(0, 2);
            Check.states("most " + most + " wait", x, 10, 2, most, 4, 19, most, 0, 0, 19, 0, 1);
            x.ask(0, 9);
            Check.same("most " + most + " wait behind a question, too", x.state(5), most);
            x.set(9, 1);
            Check.same("one more than most " + most + ": waiting", x.state(5), 0);
            Check.same("one more than most " + most + ": written", x.state(8), 38);
            Check.same("one more than most " + most + ": built", x.state(10), 2);
            Check.same("one more than most " + most + ": waits(9)", x.waits(9), (Object) false);
            x.set(9, 1);
            Check.same("it waits anew", x.state(5), 1);
        }
        Check.same("most 0", Check.load(new DoubledRows(), "row 2 0:1;"), DoubledRows.OUT_OF_RANGE);
        Check.same("most 9", Check.load(new DoubledRows(), "row 2 9:1;"), DoubledRows.OUT_OF_RANGE);
    }

    private static void setToTheSame() {
        Check.sentence("A value is set also if it is the same as before.");
        DoubledRows zero = Check.loaded("row 0 1:3 2;set 0 3;");
        Check.same("by rule 0 it waits", zero.waits(0), (Object) true);
        Check.same("by rule 0 it is built for", zero.writes(), 1);
        DoubledRows one = Check.loaded("row 1 1:3 2;set 0 3;");
        Check.same("by rule 1 it is written", one.state(8), 2);
        DoubledRows two = Check.loaded("row 2 1:3 2;set 0 3;");
        Check.same("by rule 2 it waits", two.waits(0), (Object) true);
        Check.same("set(1, 2)", two.set(1, 2), 2);
        Check.states("by rule 2 it is one too many", two, 2, 2, 1, 2, 1, 0, 0, 0, 2, 0, 2);
    }

    private static void whenAllIsBuilt() {
        Check.sentence("When values are put in or taken out, and when the rule is set (also to what it is), all is"
            + " built, and none waits.");
        for (int rule = 0; rule <= 2; rule++) {
            for (int waiting = 0; waiting <= 1; waiting++) {
                int r = rule;
                int w = waiting;
                Supplier<DoubledRows> made = () -> withWaiting(r, w);
                builtBehind("put(0, 0)", made, x -> x.put(0, 0));
                builtBehind("put(8, 0)", made, x -> x.put(8, 0));
                builtBehind("take(0)", made, x -> x.take(0));
                builtBehind("take(7)", made, x -> x.take(7));
                builtBehind("rule(1, 0)", made, x -> x.rule(1, 0));
                builtBehind("rule(1, 1)", made, x -> x.rule(1, 1));
                builtBehind("rule(1, 2)", made, x -> x.rule(1, 2));
            }
        }
        DoubledRows one = of(0, 1, 5, 4);
        one.set(0, 3);
        Check.same("take down to 1 value", one.take(1), 4);
        Check.states("1 value is built without a cell", one, 1, 0, 1, 1, 0, 0, 0, 0, 1, 0, 2);
    }

    private static DoubledRows withWaiting(int rule, int waiting) {
        DoubledRows x = of(rule, 8, new int[8]);
        for (int place = 0; place < waiting; place++) {
            x.set(place, 1);
        }
        return x;
    }

    private static void builtBehind(String call, Supplier<DoubledRows> made, Check.Call action) {
        DoubledRows x = made.get();
        int written = x.state(8);
        int rule = x.state(1);
        int waiting = x.state(5);
        Check.answer(() -> action.on(x));
        String when = call + " by rule " + rule + " with " + waiting + " waiting";
        Check.same(when + ": written", x.state(8) - written, cellsOf(x.state(0)));
        Check.same(when + ": built", x.state(10), 2);
        Check.same(when + ": waiting", x.state(5), 0);
        cellsAreRight(when, x, x.state(0));
    }

    private static void mostAlone() {
        Check.sentence("(Setting most alone does nothing else.)");
        for (int rule = 0; rule <= 2; rule++) {
            DoubledRows x = of(rule, 8, 5, 5, 5);
            x.set(0, 1);
            x.set(2, 1);
            int waiting = rule == 1 ? 0 : 2;
            int written = rule == 1 ? 2 + 1 + 1 : 2;
            Check.same("rule(2, 1)", x.rule(2, 1), 8);
            Check.states("most is 1 by rule " + rule, x, 3, rule, 1, 2, 2, waiting, 0, 0, written, 0, 1);
            Check.same("rule(2, 1) again", x.rule(2, 1), 1);
            Check.states("most is 1 again by rule " + rule, x, 3, rule, 1, 2, 2, waiting, 0, 0, written, 0, 1);
        }
        DoubledRows x = of(2, 3, 5, 5, 5, 5);
        x.set(0, 1);
        x.set(1, 1);
        x.set(2, 1);
        x.rule(2, 1);
        Check.same("ask(0, 3)", x.ask(0, 3), 0);
        Check.same("a question builds nothing", x.state(5), 3);
        x.set(2, 2);
        Check.same("the next set builds, also at a place that waits", x.state(5), 0);
    }

    private static void leastValueOfAStretch() {
        Check.sentence("A question asks for the least value of a stretch.");
        for (int rule = 0; rule <= 2; rule++) {
            // Each row of six values 0 or 1, made by sets: some places wait, and some do not.
            for (int row = 0; row < 64; row++) {
                DoubledRows x = of(rule, 3, 0, 1, 0, 1, 1, 0);
                for (int place = 0; place < 6; place++) {
                    int value = row >> place & 1;
                    if (x.value(place) != value) {
                        x.set(place, value);
                    }
                }
                int[] values = valuesOf(x, 6);
                for (int from = 0; from < 6; from++) {
                    for (int to = from; to < 6; to++) {
                        String call = "row " + row + " by rule " + rule + ": ask(" + from + ", " + to + ")";
                        Check.same(call, x.ask(from, to), leastByHand(values, from, to));
                    }
                }
            }
        }
    }

    private static void builtFirstIfSomeWait() {
        Check.sentence("By rule 0 all is built first, if some place waits.");
        DoubledRows x = of(0, 1, 5, 4, 5, 5);
        Check.same("ask(0, 3) if none waits", x.ask(0, 3), 1);
        Check.states("none waited", x, 4, 0, 1, 3, 4, 0, 0, 1, 4, 1, 1);
        x.set(1, 9);
        Check.same("ask(3, 3) if one outside waits", x.ask(3, 3), 3);
        Check.states("one waited", x, 4, 0, 1, 3, 4, 0, 0, 2, 8, 2, 2);
        x.set(0, 9);
        x.set(3, 1);
        Check.same("ask(0, 3) if two wait", x.ask(0, 3), 3);
        Check.states("two waited", x, 4, 0, 1, 3, 4, 0, 0, 3, 12, 3, 3);
        DoubledRows two = of(2, 2, 5, 4, 5, 5);
        two.set(1, 9);
        Check.same("ask(0, 3) by rule 2", two.ask(0, 3), 0);
        Check.states("by rule 2 nothing is built", two, 4, 2, 2, 3, 4, 1, 0, 1 + 1 + 1, 4, 1, 1);
    }

    private static void partsOfAStretch() {
        Check.sentence("Then the stretch is parted: each place in it that waits is a part by itself, and so are the"
            + " longest runs of places that do not wait.");
        partsCost("none waits", 5, 14, 2);
        partsCost("the first place waits", 5, 14, 1 + 2, 5);
        partsCost("the last place waits", 5, 14, 2 + 1, 14);
        partsCost("both ends wait", 5, 14, 1 + 1 + 1, 5, 14);
        partsCost("the second place waits", 5, 14, 1 + 1 + 1, 6);
        partsCost("a place in the middle waits", 5, 14, 1 + 1 + 2, 9);
        partsCost("two neighbours wait", 5, 14, 1 + 2 + 1, 9, 10);
        partsCost("two apart wait", 5, 14, 2 + 1 + 1 + 1 + 1, 8, 10);
        partsCost("the places next to the stretch wait", 5, 14, 2, 4, 15);
        partsCost("all wait", 5, 8, 4, 5, 6, 7, 8);
        partsCost("all but the first wait", 5, 8, 4, 6, 7, 8);
        partsCost("the only place waits", 5, 5, 1, 5);
        partsCost("the whole row, its ends wait", 0, 39, 1 + 2 + 1, 0, 39);
        partsCost("the whole row, eight wait", 0, 39, 8 + 1 + 7 + 2, 1, 3, 5, 7, 9, 11, 13, 15);
    }

    /** All values are 0 but those at the places that wait: there the cells tell of a 0 that is no more. */
    private static void partsCost(String when, int from, int to, int due, int... waiting) {
        DoubledRows x = of(2, 8, new int[40]);
        for (int place : waiting) {
            x.set(place, 1);
        }
        Check.same(when + ": looks", x.looks(from, to), due);
        Check.same(when + ": ask", x.ask(from, to), leastByHand(valuesOf(x, 40), from, to));
        Check.same(when + ": looks of the question", x.state(7), due);
    }

    private static void oneLookForOneThatWaits() {
        Check.sentence("A place that waits costs 1 look.");
        for (int waiting = 0; waiting <= 8; waiting++) {
            DoubledRows x = of(2, 8, new int[8]);
            for (int place = 0; place < waiting; place++) {
                x.set(place, 1);
            }
            int rest = 8 - waiting;
            int looksOfRest = rest == 0 ? 0 : Integer.bitCount(rest) == 1 ? 1 : 2;
            Check.same(waiting + " of 8 wait", x.looks(0, 7), waiting + looksOfRest);
        }
    }

    private static void looksOfARun() {
        Check.sentence("A run of n places is asked on the greatest level k with 2 to the power k not greater than n:"
            + " by 1 look, if both are the same, otherwise by 2 looks");
        int[] due = {1, 1, 2, 1, 2, 2, 2, 1, 2, 2, 2, 2, 2, 2, 2, 1, 2, 2, 2, 2, 2, 2, 2, 2, 2, 2, 2, 2, 2, 2, 2, 1,
            2, 2, 2, 2, 2, 2, 2, 2};
        for (int n = 1; n <= 40; n++) {
            DoubledRows x = Check.rising(0, 40);
            Check.same("looks of the first " + n, x.looks(0, n - 1), due[n - 1]);
            Check.same("looks of the last " + n, x.looks(40 - n, 39), due[n - 1]);
            x.ask(40 - n, 39);
            Check.same("looks of a question of " + n, x.state(7), due[n - 1]);
        }
    }

    private static void firstAndLastLook() {
        Check.sentence("(the cell of its first place, and that whose values end at its last place).");
        for (int n : SIZES) {
            for (int least = 0; least < n; least++) {
                int from = (40 - n) / 2;
                int[] values = new int[40];
                for (int place = 0; place < 40; place++) {
                    // What is outside is less than all inside: a look that reaches too far would tell it.
                    values[place] = place < from || place >= from + n ? -9 : place == from + least ? 1 : 5;
                }
                DoubledRows x = of(0, 1, values);
                Check.same("ask of " + n + ", the least at " + least, x.ask(from, from + n - 1), from + least);
            }
        }
    }

    private static void leastOfAllSeen() {
        Check.sentence("The answer is the least of all that was seen, of several the leftmost place.");
        Check.same("all the same by 2 looks", of(0, 1, 5, 5, 5).ask(0, 2), 0);
        Check.same("the least in both looks", of(0, 1, 5, 1, 5).ask(0, 2), 1);
        Check.same("the same at both ends", of(0, 1, 1, 5, 5, 5, 1).ask(0, 4), 0);
        Check.same("less by one at the end", of(0, 1, 1, 5, 5, 5, 0).ask(0, 4), 4);
        seenWithWaiting("a place that waits, and a run behind it", 0, 0, 1, 5, 1, 5);
        seenWithWaiting("a run, and a place that waits behind it", 1, 2, 5, 1, 1, 5);
        seenWithWaiting("a run on either side", 0, 1, 1, 9, 1, 1);
        seenWithWaiting("the place that waits is less", 2, 2, 1, 1, 0, 1);
        seenWithWaiting("the run behind is less", 3, 1, 2, 1, 2, 0);
        DoubledRows both = of(2, 8, 5, 5, 5, 5);
        both.set(3, 1);
        both.set(1, 1);
        Check.same("two that wait", both.ask(0, 3), 1);
        both.set(3, 0);
        Check.same("two that wait, the last one less", both.ask(0, 3), 3);
        both.set(3, 9);
        both.set(1, 9);
        Check.same("two that wait, both greater", both.ask(0, 3), 0);
    }

    /** Ahead of the change the value there is the least of all, so cells that tell of it are wrong now. */
    private static void seenWithWaiting(String when, int due, int waiting, int... values) {
        int[] before = values.clone();
        before[waiting] = -9;
        DoubledRows x = of(2, 8, before);
        x.set(waiting, values[waiting]);
        Check.same(when, x.ask(0, values.length - 1), due);
    }
}
