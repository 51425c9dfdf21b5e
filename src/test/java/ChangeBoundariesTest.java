import java.util.ArrayList;
import java.util.List;
import java.util.function.Supplier;

/**
 * Each sentence that names a boundary case in the parts 'Kept stretches' and 'Changes' of 'Terms', one test each: at
 * the boundary, and next to it on either side.
 */
public final class ChangeBoundariesTest {
    private ChangeBoundariesTest() {
    }

    public static void main(String[] args) {
        eightAreKept();
        orderOfKept();
        putMovesStretches();
        takeMovesStretches();
        takeFrom40();
        takeOfTheOnlyOtherPlace();
        whatIsAChange();
        changesThatLeaveAllAsItWas();
        whatIsNoChange();
        latest8Changes();
        undoneOnesMakeNoneFinal();
        aheadOfTheFirstLoad();
        placesThatAreNone();
        placesOfStretchesThatAreNone();
        placeOfPut();
        fromGreaterThanTo();
        valuesThatAreNone();
        firstExceptionListed();
        exceptionsChangeNothing();
        Check.end();
    }

    private static DoubledRows keeping(int stretches) {
        return Check.loaded("row 0 1:1 2 3;" + "keep 0 1;".repeat(stretches));
    }

    private static void eightAreKept() {
        Check.sentence("At most 8 stretches are kept, in the order in which they came.");
        Check.same("keep a 7th", keeping(6).keep(0, 0), 7);
        Check.same("keep an 8th", keeping(7).keep(0, 0), 8);
        Check.refused("keep a 9th", Check.STATE, () -> keeping(8), x -> x.keep(0, 0));
        DoubledRows read = new DoubledRows();
        String text = "row 0 1:1 2 3;" + "keep 0 1;".repeat(7);
        Check.same("a text with 8", Check.load(read, text + "keep 2 2;"), 3);
        Check.same("kept by a text with 8", read.state(6), 8);
        Check.same("kept(7)", read.kept(7), 202);
        Check.same("a text with 9", Check.load(read, text + "keep 2 2;keep 2 2;"), DoubledRows.TOO_MANY);
        Check.same("an 8th is forgotten", read.forget(0), 7);
        Check.same("an 8th is kept again", read.keep(1, 1), 8);
        Check.raises("a 9th is not", Check.STATE, () -> read.keep(1, 1));
    }

    private static void orderOfKept() {
        Check.sentence("At most 8 stretches are kept, in the order in which they came.");
        DoubledRows x = Check.rising(0, 9);
        int[] due = new int[8];
        for (int k = 0; k < 8; k++) {
            int to = 8 - k % 2;
            x.keep(7 - k, to);
            due[k] = 100 * (7 - k) + to;
        }
        Check.keptOnes("eight, the last places first", x, due);
        x.forget(7);
        x.forget(0);
        x.keep(8, 8);
        Check.keptOnes("the newest is the last one", x, due[1], due[2], due[3], due[4], due[5], due[6], 808);
    }

    /** The stretch that holds the marked places, as kept(int) tells it; -1 if there is none. */
    private static int stretchOf(List<Boolean> marks) {
        int from = marks.indexOf(true);
        return from < 0 ? -1 : 100 * from + marks.lastIndexOf(true);
    }

    private static List<Boolean> marks(int count, int from, int to) {
        List<Boolean> marks = new ArrayList<>();
        for (int place = 0; place < count; place++) {
            marks.add(place >= from && place <= to);
        }
        return marks;
    }

    private static void putMovesStretches() {
        Check.sentence("If a value is put in at a place, stretches from that place on, or from one behind it, are 1"
            + " place further to the right, and those with that place in them, but not as their first one, are 1"
            + " longer.");
        for (int from = 0; from < 5; from++) {
            for (int to = from; to < 5; to++) {
                for (int place = 0; place <= 5; place++) {
                    DoubledRows x = Check.rising(0, 5);
                    x.keep(from, to);
                    x.put(place, 0);
                    List<Boolean> due = marks(5, from, to);
                    due.add(place, place > from && place <= to);
                    String when = "(" + from + ", " + to + ") behind put at " + place;
                    Check.keptOnes(when, x, stretchOf(due));
                }
            }
        }
        DoubledRows x = Check.loaded("row 0 1:5 5 5 5;keep 2 3;keep 0 1;keep 1 1;keep 1 2;keep 0 3;put 2 5;");
        Check.keptOnes("all in their order, each by itself", x, 304, 1, 101, 103, 4);
        DoubledRows wide = Check.rising(0, 39);
        wide.keep(0, 38);
        wide.keep(38, 38);
        wide.put(38, 0);
        Check.keptOnes("the last place of 39", wide, 39, 3939);
        wide.undo();
        wide.put(39, 0);
        Check.keptOnes("behind the last place of 39", wide, 38, 3838);
    }

    private static void takeMovesStretches() {
        Check.sentence("If a value is taken out, stretches behind its place are 1 place further to the left, and"
            + " those with it in them 1 shorter; one that had no other place is kept no longer.");
        for (int from = 0; from < 5; from++) {
            for (int to = from; to < 5; to++) {
                for (int place = 0; place < 5; place++) {
                    DoubledRows x = Check.rising(0, 5);
                    x.keep(from, to);
                    x.take(place);
                    List<Boolean> marks = marks(5, from, to);
                    marks.remove(place);
                    int due = stretchOf(marks);
                    String when = "(" + from + ", " + to + ") behind take of " + place;
                    if (due < 0) {
                        Check.keptOnes(when, x);
                    } else {
                        Check.keptOnes(when, x, due);
                    }
                }
            }
        }
    }

    private static void takeFrom40() {
        Check.sentence("If a value is taken out, stretches behind its place are 1 place further to the left,");
        DoubledRows wide = Check.rising(0, 40);
        wide.keep(0, 39);
        wide.keep(39, 39);
        wide.keep(38, 38);
        wide.take(38);
        Check.keptOnes("the last place but one of 40", wide, 38, 3838);
        wide.undo();
        wide.take(39);
        Check.keptOnes("the last place of 40", wide, 38, 3838);
        wide.undo();
        wide.take(0);
        Check.keptOnes("the first place of 40", wide, 38, 3838, 3737);
    }

    private static void takeOfTheOnlyOtherPlace() {
        Check.sentence("one that had no other place is kept no longer.");
        DoubledRows x = Check.loaded("row 0 1:5 5 5 5;keep 2 2;keep 2 3;keep 2 2;keep 1 2;keep 2 2;keep 3 3;keep 2 2;");
        x.take(2);
        Check.keptOnes("several at once", x, 202, 101, 202);
        x.take(2);
        Check.keptOnes("and again", x, 101);
        DoubledRows all = Check.loaded("row 0 1:5 5;" + "keep 1 1;".repeat(8) + "take 1;");
        Check.keptOnes("all eight", all);
        DoubledRows ends = Check.loaded("row 0 1:5 5;keep 0 0;keep 1 1;take 0;");
        Check.keptOnes("the one behind stays", ends, 0);
        Check.same("take asks nothing", ends.state(9) + ends.state(7), 0);
    }

    /** Each method that changes, with a text of its name. */
    private static final String[] CHANGES = {"load", "set", "ask", "keep", "forget", "sweep", "put", "take", "rule(1)",
        "rule(2)"};

    private static Object change(DoubledRows x, String name) {
        switch (name) {
            case "load": return Check.load(x, "row 0 1:1;");
            case "set": return x.set(0, 9);
            case "ask": return x.ask(0, 1);
            case "keep": return x.keep(0, 1);
            case "forget": return x.forget(0);
            case "sweep": return x.sweep(1000);
            case "put": return x.put(0, 9);
            case "take": return x.take(0);
            case "rule(1)": return x.rule(1, 1);
            default: return x.rule(2, 5);
        }
    }

    private static void whatIsAChange() {
        Check.sentence("The changing methods are load (when it succeeds), set, ask, keep, forget, sweep, put, take"
            + " and rule;");
        for (String name : CHANGES) {
            DoubledRows x = Check.loaded("row 2 3:4 3 2;keep 0 2;set 1 8;");
            x.keep(1, 2);
            long before = x.checksum();
            change(x, name);
            Check.same("undo() of " + name, x.undo(), 2);
            Check.same("checksum() behind undo() of " + name, x.checksum(), before);
            Check.same("undo() of keep", x.undo(), 1);
            Check.keptOnes("behind undo() of keep", x, 2);
        }
    }

    private static void changesThatLeaveAllAsItWas() {
        Check.sentence("each such call that does not throw an exception is a change, also if all data stay as they"
            + " were.");
        for (int times = 1; times <= 8; times++) {
            DoubledRows x = new DoubledRows();
            for (int made = 0; made < times; made++) {
                x.sweep(0);
            }
            Check.same(times + " sweeps of none kept: undo()", x.undo(), times - 1);
        }
        DoubledRows most = new DoubledRows();
        most.rule(2, 2);
        Check.same("most set to what it is: undo()", most.undo(), 0);
        DoubledRows set = Check.loaded("row 1 1:5;");
        set.set(0, 5);
        Check.same("a value set to what it is, and no cell to write: undo()", set.undo(), 1);
        DoubledRows read = new DoubledRows();
        Check.load(read, "row 0 2:0;");
        Check.same("a text of what is there: undo()", read.undo(), 0);
        DoubledRows final8 = Check.loaded("row 0 1:5;");
        for (int made = 0; made < 8; made++) {
            final8.sweep(0);
        }
        Check.same("8 of them make the one before final: undo()", final8.undo(), 7);
        for (int made = 0; made < 8; made++) {
            final8.undo();
        }
        Check.same("the load is final", final8.value(0), 5);
    }

    private static void whatIsNoChange() {
        Check.sentence("each such call that does not throw an exception is a change, also if all data stay as they"
            + " were.");
        DoubledRows read = keepingOne();
        readAll(read);
        Check.same("methods that only read are no changes", Check.allOf(read), Check.allOf(keepingOne()));
        DoubledRows failed = keepingOne();
        Check.load(failed, "row 0 1:1;take 0;");
        Check.same("a load with an error is no change: undo()", failed.undo(), 0);
        Check.keptOnes("undo() behind it takes back keep", failed);
        DoubledRows undone = keepingOne();
        undone.keep(0, 0);
        undone.undo();
        Check.same("undo() is no change", undone.undo(), 0);
        Check.same("there is none left", undone.undo(), -1);
        DoubledRows appended = keepingOne();
        appended.append(0, 0, 0, 0, 0);
        Check.same("append is no change: undo()", appended.undo(), 0);
        Check.raises("append is not undone", Check.ARGUMENT, () -> appended.load(21));
        Check.same("the bytes are there", appended.load(20), DoubledRows.SYNTAX_ERROR);
    }

    private static DoubledRows keepingOne() {
        DoubledRows x = new DoubledRows();
        x.keep(0, 0);
        return x;
    }

    private static void readAll(DoubledRows x) {
        x.errorOffset();
        x.state(0);
        x.value(0);
        x.cell(0, 0);
        x.waits(0);
        x.least(0, 0);
        x.looks(0, 0);
        x.writes();
        x.above(0);
        x.lessBehind(0);
        x.rules(0);
        x.sum(0, 0);
        x.kept(0);
        x.looksOfKept();
        x.bestRule(0);
        x.ranked(0);
        x.gap();
        x.costOfOne();
        x.checksum();
    }

    private static void latest8Changes() {
        Check.sentence("The latest 8 changes can be undone, the latest one first; a change is final as soon as 8"
            + " later ones, none of them undone, have been made.");
        for (int made = 0; made <= 18; made++) {
            DoubledRows x = new DoubledRows();
            for (int value = 1; value <= made; value++) {
                x.set(0, value);
            }
            int undone = 0;
            for (int left = Math.min(made, 8) - 1; left >= 0; left--) {
                undone++;
                Check.same(made + " changes, undo() " + undone, x.undo(), left);
                Check.same(made + " changes, value(0) behind undo() " + undone, x.value(0), made - undone);
            }
            Check.same(made + " changes, one undo() more", x.undo(), -1);
            Check.same(made + " changes, value(0) at the end", x.value(0), Math.max(made - 8, 0));
        }
    }

    private static void undoneOnesMakeNoneFinal() {
        Check.sentence("The latest 8 changes can be undone, the latest one first; a change is final as soon as 8"
            + " later ones, none of them undone, have been made.");
        for (int undone = 0; undone <= 8; undone++) {
            for (int later = 0; later <= 9; later++) {
                DoubledRows x = new DoubledRows();
                List<Integer> values = new ArrayList<>(List.of(0));
                for (int value = 1; value <= 8; value++) {
                    x.set(0, value);
                    values.add(value);
                }
                for (int k = 0; k < undone; k++) {
                    x.undo();
                    values.remove(values.size() - 1);
                }
                for (int value = 101; value <= 100 + later; value++) {
                    x.set(0, value);
                    values.add(value);
                }
                undoAll("8 made, " + undone + " undone, " + later + " made", x, values);
            }
        }
    }

    /** The values are those that were at place 0, from the first one on. */
    private static void undoAll(String when, DoubledRows x, List<Integer> values) {
        int last = values.size() - 1;
        int least = Math.max(last - 8, 0);
        for (int k = last - 1; k >= least; k--) {
            Check.same(when + ": undo()", x.undo(), k - least);
            Check.same(when + ": value(0)", x.value(0), (int) values.get(k));
        }
        Check.same(when + ": undo() of a final one", x.undo(), -1);
        Check.same(when + ": value(0) at the end", x.value(0), (int) values.get(least));
    }

    private static void aheadOfTheFirstLoad() {
        Check.sentence("Before the first successful load all is as by the text \"row 0 2:0;\".");
        long due = Check.loaded("row 0 2:0;").checksum();
        DoubledRows x = new DoubledRows();
        Check.same("checksum()", x.checksum(), due);
        Check.load(x, "row 1 3:7 8;set 2 0;");
        Check.same("checksum() behind a load that fails", x.checksum(), due);
        Check.load(x, "row 1 3:7 8;");
        x.undo();
        Check.same("checksum() behind a load that is undone", x.checksum(), due);
        Check.states("ahead of the first load", new DoubledRows(), 1, 0, 2, 1, 0, 0, 0, 0, 0, 0, 1);
        Check.values("ahead of the first load", new DoubledRows(), 0);
        DoubledRows changed = new DoubledRows();
        DoubledRows same = Check.loaded("row 0 2:0;");
        for (DoubledRows y : List.of(changed, same)) {
            y.put(1, -5);
            y.set(0, -9);
            y.keep(0, 1);
            y.sweep(-5);
        }
        Check.same("checksum() behind the same changes", changed.checksum(), same.checksum());
    }

    private interface AtPlace {
        Object call(DoubledRows x, int place);
    }

    private static void placesThatAreNone() {
        Check.sentence("In the methods, IndexOutOfBoundsException is thrown if a parameter named place, from or to is"
            + " no place of the row");
        atPlaces("value", (x, place) -> x.value(place));
        atPlaces("cell", (x, place) -> x.cell(0, place));
        atPlaces("waits", (x, place) -> x.waits(place));
        atPlaces("above", (x, place) -> x.above(place));
        atPlaces("lessBehind", (x, place) -> x.lessBehind(place));
        atPlaces("rules", (x, place) -> x.rules(place));
        atPlaces("bestRule", (x, place) -> x.bestRule(place));
        atPlaces("set", (x, place) -> x.set(place, 5));
        atPlaces("take", (x, place) -> x.take(place));
    }

    private static void placesOfStretchesThatAreNone() {
        Check.sentence("In the methods, IndexOutOfBoundsException is thrown if a parameter named place, from or to is"
            + " no place of the row");
        atPlaces("least to n - 1", (x, place) -> x.least(place, x.state(0) - 1));
        atPlaces("looks to n - 1", (x, place) -> x.looks(place, x.state(0) - 1));
        atPlaces("sum to n - 1", (x, place) -> x.sum(place, x.state(0) - 1));
        atPlaces("ask to n - 1", (x, place) -> x.ask(place, x.state(0) - 1));
        atPlaces("keep to n - 1", (x, place) -> x.keep(place, x.state(0) - 1));
        atPlaces("least from 0", (x, place) -> x.least(0, place));
        atPlaces("looks from 0", (x, place) -> x.looks(0, place));
        atPlaces("sum from 0", (x, place) -> x.sum(0, place));
        atPlaces("ask from 0", (x, place) -> x.ask(0, place));
        atPlaces("keep from 0", (x, place) -> x.keep(0, place));
        atPlaces("least of it alone", (x, place) -> x.least(place, place));
        atPlaces("looks of it alone", (x, place) -> x.looks(place, place));
        atPlaces("sum of it alone", (x, place) -> x.sum(place, place));
        atPlaces("ask of it alone", (x, place) -> x.ask(place, place));
        atPlaces("keep of it alone", (x, place) -> x.keep(place, place));
    }

    /** A row that had more values once: what is behind its end is no place, though something may still stand there. */
    private static DoubledRows shortened(int count) {
        DoubledRows x = Check.rising(2, Math.min(count + 2, 40));
        while (x.state(0) > count) {
            x.take(0);
        }
        return x;
    }

    private static void atPlaces(String name, AtPlace method) {
        for (int n : new int[] {2, 3, 39, 40}) {
            for (int place : new int[] {0, 1, n - 2, n - 1}) {
                String answer = Check.answer(() -> method.call(shortened(n), place));
                String call = name + " at " + place + " of " + n;
                Check.same(call + " throws", answer.startsWith("throws."), (Object) false);
            }
            for (int place : new int[] {Check.LEAST_INT, -2, -1, n, n + 1, Check.GREATEST_INT}) {
                String call = name + " at " + place + " of " + n;
                Check.refused(call, Check.BOUNDS, () -> shortened(n), x -> method.call(x, place));
            }
        }
    }

    private static void placeOfPut() {
        Check.sentence("(in put, place may be the number of values, too)");
        for (int n : new int[] {1, 2, 38, 39}) {
            for (int place : new int[] {0, n - 1, n}) {
                DoubledRows x = shortened(n);
                Check.same("put at " + place + " of " + n, x.put(place, 77), n + 1);
                Check.same("value(" + place + ") behind put there", x.value(place), 77);
            }
            for (int place : new int[] {Check.LEAST_INT, -2, -1, n + 1, n + 2, Check.GREATEST_INT}) {
                Check.refused("put at " + place + " of " + n, Check.BOUNDS, () -> shortened(n), x -> x.put(place, 77));
            }
        }
        for (int place : new int[] {-1, 41}) {
            Check.refused("put at " + place + " of 40", Check.BOUNDS, () -> shortened(40), x -> x.put(place, 77));
        }
    }

    private interface OfStretch {
        Object call(DoubledRows x, int from, int to);
    }

    private static void fromGreaterThanTo() {
        Check.sentence("IllegalArgumentException if from is greater than to, or value is not -999 to 999.");
        ofStretches("least", (x, from, to) -> x.least(from, to));
        ofStretches("looks", (x, from, to) -> x.looks(from, to));
        ofStretches("sum", (x, from, to) -> x.sum(from, to));
        ofStretches("ask", (x, from, to) -> x.ask(from, to));
        ofStretches("keep", (x, from, to) -> x.keep(from, to));
    }

    private static void ofStretches(String name, OfStretch method) {
        for (int from = 0; from < 5; from++) {
            for (int to = 0; to < 5; to++) {
                int a = from;
                int b = to;
                String call = name + "(" + from + ", " + to + ")";
                if (from > to) {
                    Check.refused(call, Check.ARGUMENT, Check::busy, x -> method.call(x, a, b));
                } else {
                    String answer = Check.answer(() -> method.call(Check.busy(), a, b));
                    Check.same(call + " throws", answer.startsWith("throws."), (Object) false);
                }
            }
        }
    }

    private static void valuesThatAreNone() {
        Check.sentence("IllegalArgumentException if from is greater than to, or value is not -999 to 999.");
        for (int value : new int[] {-999, -998, -1, 0, 1, 998, 999}) {
            DoubledRows x = Check.busy();
            Check.same("set(4, " + value + ")", x.set(4, value), 7);
            Check.same("put(5, " + value + ")", x.put(5, value), 6);
            Check.same("value(4)", x.value(4), value);
            Check.same("value(5)", x.value(5), value);
        }
        for (int value : new int[] {Check.LEAST_INT, -1001, -1000, 1000, 1001, Check.GREATEST_INT}) {
            Check.refused("set(4, " + value + ")", Check.ARGUMENT, Check::busy, x -> x.set(4, value));
            Check.refused("put(5, " + value + ")", Check.ARGUMENT, Check::busy, x -> x.put(5, value));
        }
    }

    private static void firstExceptionListed() {
        Check.sentence("If several exceptions apply to a call, the one that is listed first with the method is"
            + " thrown.");
        ofWrongStretch("least", (x, from, to) -> x.least(from, to));
        ofWrongStretch("looks", (x, from, to) -> x.looks(from, to));
        ofWrongStretch("sum", (x, from, to) -> x.sum(from, to));
        ofWrongStretch("ask", (x, from, to) -> x.ask(from, to));
        ofWrongStretch("keep", (x, from, to) -> x.keep(from, to));
        Supplier<DoubledRows> eight = () -> keeping(8);
        Check.refused("keep(-1, 3): no place, and 8 are kept", Check.BOUNDS, eight, x -> x.keep(-1, 3));
        Check.refused("keep(0, 3): no place, and 8 are kept", Check.BOUNDS, eight, x -> x.keep(0, 3));
        Check.refused("keep(3, 0): no place, 3 > 0, and 8 are kept", Check.BOUNDS, eight, x -> x.keep(3, 0));
        Check.refused("keep(1, 0): 1 > 0, and 8 are kept", Check.ARGUMENT, eight, x -> x.keep(1, 0));
        Check.refused("keep(0, 1): 8 are kept", Check.STATE, eight, x -> x.keep(0, 1));
        Check.refused("cell(-1, 3): no place, no cell", Check.BOUNDS, eight, x -> x.cell(-1, 3));
        Check.refused("cell(9, -1): no place, no cell", Check.BOUNDS, eight, x -> x.cell(9, -1));
        Check.refused("cell(9, 0): no cell", Check.NO_ELEMENT, eight, x -> x.cell(9, 0));
        Check.refused("set(3, 1000): no place, no value", Check.BOUNDS, eight, x -> x.set(3, 1000));
        Check.refused("set(-1, -1000): no place, no value", Check.BOUNDS, eight, x -> x.set(-1, -1000));
        Supplier<DoubledRows> full = () -> Check.rising(0, 40);
        Check.refused("put(41, 1000): no place, no value, and 40", Check.BOUNDS, full, x -> x.put(41, 1000));
        Check.refused("put(-1, 5): no place, and 40", Check.BOUNDS, full, x -> x.put(-1, 5));
        Check.refused("put(40, 1000): no value, and 40", Check.ARGUMENT, full, x -> x.put(40, 1000));
        Check.refused("put(0, -1000): no value, and 40", Check.ARGUMENT, full, x -> x.put(0, -1000));
        Check.refused("put(40, 999): 40", Check.STATE, full, x -> x.put(40, 999));
        Check.refused("put(4, 1000): no place, no value", Check.BOUNDS, eight, x -> x.put(4, 1000));
        Supplier<DoubledRows> one = () -> Check.loaded("row 2 1:5;");
        Check.refused("take(1): no place, and one value", Check.BOUNDS, one, x -> x.take(1));
        Check.refused("take(-1): no place, and one value", Check.BOUNDS, one, x -> x.take(-1));
        Check.refused("take(0): one value", Check.STATE, one, x -> x.take(0));
    }

    private static void ofWrongStretch(String name, OfStretch method) {
        Check.refused(name + "(5, 4): no place, 5 > 4", Check.BOUNDS, Check::busy, x -> method.call(x, 5, 4));
        Check.refused(name + "(0, -1): no place, 0 > -1", Check.BOUNDS, Check::busy, x -> method.call(x, 0, -1));
        Check.refused(name + "(6, 5): no places, 6 > 5", Check.BOUNDS, Check::busy, x -> method.call(x, 6, 5));
        Check.refused(name + "(4, 3): 4 > 3", Check.ARGUMENT, Check::busy, x -> method.call(x, 4, 3));
    }

    private static void exceptionsChangeNothing() {
        Check.sentence("A method that throws an exception changes nothing.");
        List<Supplier<DoubledRows>> objects = List.of(Check::busy, DoubledRows::new, () -> keeping(8),
            () -> Check.loaded("row 0 1:3 2 1;keep 0 2;set 1 0;"), () -> Check.rising(1, 40));
        for (Supplier<DoubledRows> made : objects) {
            Check.refused("load(-1)", Check.ARGUMENT, made, x -> x.load(-1));
            Check.refused("load(501)", Check.ARGUMENT, made, x -> x.load(501));
            Check.refused("state(11)", Check.ARGUMENT, made, x -> x.state(11));
            Check.refused("value(40)", Check.BOUNDS, made, x -> x.value(40));
            Check.refused("cell(6, 0)", Check.NO_ELEMENT, made, x -> x.cell(6, 0));
            Check.refused("waits(40)", Check.BOUNDS, made, x -> x.waits(40));
            Check.refused("least(0, 40)", Check.BOUNDS, made, x -> x.least(0, 40));
            Check.refused("looks(0, 40)", Check.BOUNDS, made, x -> x.looks(0, 40));
            Check.refused("above(40)", Check.BOUNDS, made, x -> x.above(40));
            Check.refused("lessBehind(40)", Check.BOUNDS, made, x -> x.lessBehind(40));
            Check.refused("rules(40)", Check.BOUNDS, made, x -> x.rules(40));
            Check.refused("sum(0, 40)", Check.BOUNDS, made, x -> x.sum(0, 40));
            Check.refused("kept(8)", Check.NO_ELEMENT, made, x -> x.kept(8));
            Check.refused("bestRule(40)", Check.BOUNDS, made, x -> x.bestRule(40));
            Check.refused("ranked(40)", Check.NO_ELEMENT, made, x -> x.ranked(40));
            Check.refused("set(40, 0)", Check.BOUNDS, made, x -> x.set(40, 0));
            Check.refused("set(0, 1000)", Check.ARGUMENT, made, x -> x.set(0, 1000));
            Check.refused("ask(0, 40)", Check.BOUNDS, made, x -> x.ask(0, 40));
            Check.refused("keep(0, 40)", Check.BOUNDS, made, x -> x.keep(0, 40));
            Check.refused("forget(8)", Check.NO_ELEMENT, made, x -> x.forget(8));
            Check.refused("sweep(1001)", Check.ARGUMENT, made, x -> x.sweep(1001));
            Check.refused("put(41, 0)", Check.BOUNDS, made, x -> x.put(41, 0));
            Check.refused("put(0, 1000)", Check.ARGUMENT, made, x -> x.put(0, 1000));
            Check.refused("take(40)", Check.BOUNDS, made, x -> x.take(40));
            Check.refused("rule(1, 3)", Check.ARGUMENT, made, x -> x.rule(1, 3));
            Check.refused("rule(2, 9)", Check.ARGUMENT, made, x -> x.rule(2, 9));
        }
    }
}
