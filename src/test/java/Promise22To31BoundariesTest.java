import java.math.BigInteger;
import java.util.ArrayList;
import java.util.List;
import java.util.function.Supplier;

/**
 * Each sentence in 'Promise 22' to 'Promise 31', one test each: at the boundary that it names, and next to it on either
 * side.
 */
public final class Promise22To31BoundariesTest {
    private Promise22To31BoundariesTest() {
    }

    public static void main(String[] args) {
        setAnswersTheOneBefore();
        setRefused();
        askTellsThePlace();
        askRefused();
        keepAnswersHowMany();
        keepOfAWrongStretch();
        keepWhen8AreKept();
        forgetAnswersHowMany();
        forgetRefused();
        sweepLessThanALimit();
        sweepOfWhatStays();
        sweepAsksOneAfterTheOther();
        limitOfSweep();
        putAtEachPlace();
        putRefused();
        putInto40();
        takeAtEachPlace();
        takeRefused();
        takeOfTheOnlyOne();
        ruleAnswersTheOneBefore();
        ruleRefused();
        undoOfEachMethod();
        undoLeavesBufferAndOffset();
        undoOfNone();
        checksumOfTheLeast();
        checksumWrapsAround();
        checksumOrder();
        checksumComputes();
        checksumReturned();
        Check.end();
    }

    private static void setAnswersTheOneBefore() {
        Check.sentence("Sets a value. @return the one before");
        for (int n : new int[] {1, 2, 39, 40}) {
            DoubledRows x = Check.rising(2, n);
            Check.same("set(0, -999) of " + n, x.set(0, -999), 1);
            Check.same("set(0, 999) of " + n, x.set(0, 999), -999);
            Check.same("set(0, 999) of " + n + " again", x.set(0, 999), 999);
            Check.same("set(n - 1, 0) of " + n, x.set(n - 1, 0), n == 1 ? 999 : n);
            Check.same("value(n - 1) of " + n, x.value(n - 1), 0);
            Check.same("value(0) of " + n, x.value(0), n == 1 ? 0 : 999);
        }
    }

    private static void setRefused() {
        Check.sentence("Sets a value. @return the one before @throws IndexOutOfBoundsException if there is no such"
            + " place @throws IllegalArgumentException if value is out of range");
        for (int place : new int[] {Check.LEAST_INT, -2, -1, 5, 6, 40, 64, Check.GREATEST_INT}) {
            Check.refused("set(" + place + ", 0)", Check.BOUNDS, Check::busy, x -> x.set(place, 0));
            Check.refused("set(" + place + ", 1000)", Check.BOUNDS, Check::busy, x -> x.set(place, 1000));
        }
        for (int value : new int[] {Check.LEAST_INT, -1001, -1000, 1000, 1001, Check.GREATEST_INT}) {
            for (int rule = 0; rule <= 2; rule++) {
                String text = "row " + rule + " 1:5 6 7;set 1 4;";
                Check.refused("set(0, " + value + ") by rule " + rule, Check.ARGUMENT, () -> Check.loaded(text),
                    x -> x.set(0, value));
            }
        }
    }

    private static void askTellsThePlace() {
        Check.sentence("Asks a question. @return the place that is told");
        for (int rule = 0; rule <= 2; rule++) {
            DoubledRows x = Check.loaded("row " + rule + " 8:5 4 5 4 6;");
            Check.same("ask(0, 0)", x.ask(0, 0), 0);
            Check.same("ask(4, 4)", x.ask(4, 4), 4);
            Check.same("ask(0, 4): the leftmost", x.ask(0, 4), 1);
            Check.same("ask(2, 4)", x.ask(2, 4), 3);
            Check.same("questions", x.state(9), 4);
            Check.same("looks", x.state(7), 1 + 1 + 2 + 2);
        }
    }

    private static void askRefused() {
        Check.sentence("Asks a question. @return the place that is told @throws IndexOutOfBoundsException if there"
            + " are no such places @throws IllegalArgumentException if from is greater than to");
        for (int rule = 0; rule <= 2; rule++) {
            String text = "row " + rule + " 8:5 6 7;set 1 4;";
            Supplier<DoubledRows> made = () -> Check.loaded(text);
            Check.refused("ask(-1, 2) by rule " + rule, Check.BOUNDS, made, x -> x.ask(-1, 2));
            Check.refused("ask(0, 3) by rule " + rule, Check.BOUNDS, made, x -> x.ask(0, 3));
            Check.refused("ask(3, 3) by rule " + rule, Check.BOUNDS, made, x -> x.ask(3, 3));
            Check.refused("ask(3, 2) by rule " + rule, Check.BOUNDS, made, x -> x.ask(3, 2));
            Check.refused("ask(2, 1) by rule " + rule, Check.ARGUMENT, made, x -> x.ask(2, 1));
            Check.refused("ask(1, 0) by rule " + rule, Check.ARGUMENT, made, x -> x.ask(1, 0));
            Check.same("ask(1, 1) by rule " + rule, made.get().ask(1, 1), 1);
        }
    }

    private static DoubledRows keeping(int stretches) {
        return Check.loaded("row 0 1:5 6;" + "keep 0 1;".repeat(stretches) + "set 0 4;");
    }

    private static void keepAnswersHowMany() {
        Check.sentence("Keeps a stretch. @return how many are kept then");
        for (int kept = 0; kept <= 7; kept++) {
            DoubledRows x = keeping(kept);
            Check.same("keep behind " + kept, x.keep(1, 1), kept + 1);
            Check.same("state(6) behind " + kept, x.state(6), kept + 1);
            Check.same("kept(" + kept + ")", x.kept(kept), 101);
            Check.same("it is no question", x.state(9) + x.state(7), 0);
            Check.same("it builds nothing", x.state(5), 1);
        }
    }

    private static void keepOfAWrongStretch() {
        Check.sentence("Keeps a stretch. @return how many are kept then @throws IndexOutOfBoundsException if there"
            + " are no such places @throws IllegalArgumentException if from is greater than to");
        for (int kept = 0; kept <= 8; kept += 4) {
            int k = kept;
            Supplier<DoubledRows> made = () -> keeping(k);
            Check.refused("keep(-1, 1) behind " + kept, Check.BOUNDS, made, x -> x.keep(-1, 1));
            Check.refused("keep(0, 2) behind " + kept, Check.BOUNDS, made, x -> x.keep(0, 2));
            Check.refused("keep(2, 2) behind " + kept, Check.BOUNDS, made, x -> x.keep(2, 2));
            Check.refused("keep(2, 1) behind " + kept, Check.BOUNDS, made, x -> x.keep(2, 1));
            Check.refused("keep(1, 0) behind " + kept, Check.ARGUMENT, made, x -> x.keep(1, 0));
        }
    }

    private static void keepWhen8AreKept() {
        Check.sentence("@throws IllegalStateException if 8 are kept");
        Check.same("7 are kept", keeping(7).keep(0, 0), 8);
        Check.refused("8 are kept", Check.STATE, () -> keeping(8), x -> x.keep(0, 0));
        DoubledRows x = keeping(8);
        x.undo();
        Check.same("undo() of the load: none is kept", x.keep(0, 0), 1);
        DoubledRows swept = keeping(8);
        swept.sweep(1000);
        Check.same("none is kept behind a sweep", swept.keep(0, 0), 1);
        DoubledRows taken = Check.loaded("row 0 1:5 6;" + "keep 0 1;".repeat(7) + "keep 1 1;");
        taken.take(1);
        Check.same("7 are kept behind take", taken.keep(0, 0), 8);
    }

    private static void forgetAnswersHowMany() {
        Check.sentence("Keeps a stretch no longer. @param k its place among them, from 0 @return how many are kept"
            + " then");
        for (int kept = 1; kept <= 8; kept++) {
            for (int k = 0; k < kept; k++) {
                DoubledRows x = Check.rising(0, 9);
                List<Integer> due = new ArrayList<>();
                for (int from = 0; from < kept; from++) {
                    x.keep(from, 8);
                    due.add(100 * from + 8);
                }
                due.remove(k);
                Check.same("forget(" + k + ") of " + kept, x.forget(k), kept - 1);
                Check.keptOnes("forget(" + k + ") of " + kept, x, due.stream().mapToInt(n -> n).toArray());
            }
        }
    }

    private static void forgetRefused() {
        Check.sentence("@return how many are kept then @throws NoSuchElementException if there are not so many");
        for (int kept : new int[] {0, 1, 7, 8}) {
            Supplier<DoubledRows> made = () -> keeping(kept);
            for (int k : new int[] {Check.LEAST_INT, -2, -1, kept, kept + 1, Check.GREATEST_INT}) {
                Check.refused("forget(" + k + ") of " + kept, Check.NO_ELEMENT, made, x -> x.forget(k));
            }
        }
        DoubledRows x = keeping(1);
        Check.same("forget the only one", x.forget(0), 0);
        Check.raises("forget one more", Check.NO_ELEMENT, () -> x.forget(0));
    }

    private static void sweepLessThanALimit() {
        Check.sentence("Asks all kept stretches, one after the other, and keeps those no longer whose least value is"
            + " less than a limit.");
        String text = "row 2 8:-999 -998 0 998 999;keep 0 0;keep 1 1;keep 2 2;keep 3 3;keep 4 4;";
        int[] limits = {-999, -998, -997, 0, 1, 998, 999, 1000};
        int[] due = {0, 1, 2, 2, 3, 3, 4, 5};
        for (int k = 0; k < limits.length; k++) {
            DoubledRows x = Check.loaded(text);
            Check.same("sweep(" + limits[k] + ")", x.sweep(limits[k]), due[k]);
            Check.same("kept behind sweep(" + limits[k] + ")", x.state(6), 5 - due[k]);
            Check.same("questions of sweep(" + limits[k] + ")", x.state(9), 5);
            Check.same("looks of sweep(" + limits[k] + ")", x.state(7), 5);
            if (due[k] < 5) {
                Check.same("the first one that stays", x.kept(0), 101 * due[k]);
                Check.same("the last one stays", x.kept(4 - due[k]), 404);
            }
        }
    }

    private static void sweepOfWhatStays() {
        Check.sentence("and keeps those no longer whose least value is less than a limit.");
        // Which of 8 stretches go, one bit each: the first, the last, neighbours, all, none.
        for (int gone = 0; gone < 256; gone++) {
            StringBuilder text = new StringBuilder("row 0 1:");
            for (int k = 0; k < 8; k++) {
                text.append((gone >> k & 1) == 1 ? "4 " : "5 ");
            }
            text.append(";keep 0 0;keep 1 1;keep 2 2;keep 3 3;keep 4 4;keep 5 5;keep 6 6;keep 7 7;");
            DoubledRows x = Check.loaded(text.toString());
            List<Integer> due = new ArrayList<>();
            for (int k = 0; k < 8; k++) {
                if ((gone >> k & 1) == 0) {
                    due.add(101 * k);
                }
            }
            Check.same("sweep of " + gone, x.sweep(5), 8 - due.size());
            Check.keptOnes("sweep of " + gone, x, due.stream().mapToInt(n -> n).toArray());
            Check.same("questions of " + gone, x.state(9), 8);
        }
    }

    private static void sweepAsksOneAfterTheOther() {
        Check.sentence("Asks all kept stretches, one after the other,");
        DoubledRows none = Check.loaded("row 0 1:5 6 7;set 0 1;");
        Check.same("none is kept", none.sweep(1000), 0);
        Check.states("none is kept: no question, so nothing is built", none, 3, 0, 1, 2, 2, 1, 0, 0, 2, 0, 1);
        DoubledRows zero = Check.loaded("row 0 1:5 6 7;set 0 1;keep 0 2;keep 2 2;keep 0 1;");
        Check.same("three by rule 0", zero.sweep(2), 2);
        Check.states("three by rule 0: built once", zero, 3, 0, 1, 2, 2, 0, 1, 2 + 1 + 1, 4, 3, 2);
        DoubledRows two = Check.loaded("row 2 1:5 6 7;set 0 1;keep 0 2;keep 2 2;keep 0 1;");
        Check.same("three by rule 2", two.sweep(2), 2);
        Check.states("three by rule 2", two, 3, 2, 1, 2, 2, 1, 1, 2 + 1 + 2, 2, 3, 1);
        Check.keptOnes("three by rule 2", two, 202);
        DoubledRows one = Check.loaded("row 2 1:5 6 7;keep 0 2;keep 2 2;keep 0 1;");
        one.sweep(1000);
        Check.same("a sweep is one change: undo()", one.undo(), 1);
        Check.keptOnes("all are back at once", one, 2, 202, 1);
    }

    private static void limitOfSweep() {
        Check.sentence("@param limit -999 to 1000 @return how many these are @throws IllegalArgumentException if"
            + " limit is out of range");
        for (int limit : new int[] {-999, -998, 999, 1000}) {
            String answer = Check.answer(() -> Check.busy().sweep(limit));
            Check.same("sweep(" + limit + ") throws", answer.startsWith("throws."), (Object) false);
        }
        for (int limit : new int[] {Check.LEAST_INT, -1001, -1000, 1001, 1002, Check.GREATEST_INT}) {
            Check.refused("sweep(" + limit + ")", Check.ARGUMENT, Check::busy, x -> x.sweep(limit));
            Check.refused("sweep(" + limit + ") of none", Check.ARGUMENT, DoubledRows::new, x -> x.sweep(limit));
        }
    }

    private static int[] valuesOf(List<Integer> values) {
        return values.stream().mapToInt(v -> v).toArray();
    }

    private static List<Integer> risingValues(int count) {
        List<Integer> values = new ArrayList<>();
        for (int value = 1; value <= count; value++) {
            values.add(value);
        }
        return values;
    }

    private static void putAtEachPlace() {
        Check.sentence("Puts a value in: it is at a place then, and those from that place on are one further to the"
            + " right. @return the number of values then");
        for (int n : new int[] {1, 2, 3, 38, 39}) {
            for (int place = 0; place <= n; place++) {
                DoubledRows x = Check.rising(0, n);
                List<Integer> due = risingValues(n);
                due.add(place, -999);
                Check.same("put(" + place + ", -999) of " + n, x.put(place, -999), n + 1);
                Check.values("put(" + place + ", -999) of " + n, x, valuesOf(due));
                Check.same("the least one", x.ask(0, n), place);
            }
        }
    }

    private static void putRefused() {
        Check.sentence("@return the number of values then @throws IndexOutOfBoundsException if there is no such place"
            + " @throws IllegalArgumentException if value is out of range");
        for (int place : new int[] {Check.LEAST_INT, -2, -1, 6, 7, 40, Check.GREATEST_INT}) {
            Check.refused("put(" + place + ", 0)", Check.BOUNDS, Check::busy, x -> x.put(place, 0));
            Check.refused("put(" + place + ", -1000)", Check.BOUNDS, Check::busy, x -> x.put(place, -1000));
        }
        for (int value : new int[] {Check.LEAST_INT, -1001, -1000, 1000, 1001, Check.GREATEST_INT}) {
            Check.refused("put(0, " + value + ")", Check.ARGUMENT, Check::busy, x -> x.put(0, value));
            Check.refused("put(5, " + value + ")", Check.ARGUMENT, Check::busy, x -> x.put(5, value));
        }
    }

    private static void putInto40() {
        Check.sentence("@throws IllegalStateException if there are 40 values");
        for (int place : new int[] {0, 1, 38, 39}) {
            DoubledRows x = Check.rising(0, 39);
            Check.same("put(" + place + ", 0) into 39", x.put(place, 0), 40);
            Check.raises("put(" + place + ", 0) into 40", Check.STATE, () -> x.put(place, 0));
            Supplier<DoubledRows> full = () -> Check.rising(1, 40);
            Check.refused("put(" + place + ", 0) into 40", Check.STATE, full, y -> y.put(place, 0));
        }
        Check.refused("put(40, 0) into 40", Check.STATE, () -> Check.rising(1, 40), y -> y.put(40, 0));
        Check.refused("put(41, 0) into 40", Check.BOUNDS, () -> Check.rising(1, 40), y -> y.put(41, 0));
        DoubledRows x = Check.rising(0, 40);
        x.take(0);
        Check.same("put behind take", x.put(39, 0), 40);
        x.undo();
        Check.same("put behind undo()", x.put(0, 0), 40);
    }

    private static void takeAtEachPlace() {
        Check.sentence("Takes a value out. @return it");
        for (int n : new int[] {2, 3, 39, 40}) {
            for (int place = 0; place < n; place++) {
                DoubledRows x = Check.rising(0, n);
                List<Integer> due = risingValues(n);
                int taken = due.remove(place);
                Check.same("take(" + place + ") of " + n, x.take(place), taken);
                Check.values("take(" + place + ") of " + n, x, valuesOf(due));
                Check.same("the least one", x.ask(0, n - 2), 0);
            }
        }
    }

    private static void takeRefused() {
        Check.sentence("Takes a value out. @return it @throws IndexOutOfBoundsException if there is no such place");
        for (int place : new int[] {Check.LEAST_INT, -2, -1, 5, 6, 40, Check.GREATEST_INT}) {
            Check.refused("take(" + place + ")", Check.BOUNDS, Check::busy, x -> x.take(place));
        }
    }

    private static void takeOfTheOnlyOne() {
        Check.sentence("@throws IllegalStateException if it is the only one");
        Supplier<DoubledRows> one = () -> Check.loaded("row 0 1:5;keep 0 0;set 0 4;");
        Check.refused("take(0) of 1", Check.STATE, one, x -> x.take(0));
        Check.refused("take(1) of 1", Check.BOUNDS, one, x -> x.take(1));
        Check.refused("take(0) when new", Check.STATE, DoubledRows::new, x -> x.take(0));
        for (int place = 0; place <= 1; place++) {
            DoubledRows two = Check.loaded("row 0 1:5 6;");
            Check.same("take(" + place + ") of 2", two.take(place), 5 + place);
            Check.raises("take(0) of the one that is left", Check.STATE, () -> two.take(0));
            two.put(0, 9);
            Check.same("take(0) behind put", two.take(0), 9);
        }
    }

    private static void ruleAnswersTheOneBefore() {
        Check.sentence("Sets the rule, or most. @param what 1 rule, 2 most @param value a number within its range"
            + " @return the one before");
        for (int before = 0; before <= 2; before++) {
            for (int value = 0; value <= 2; value++) {
                DoubledRows x = Check.loaded("row " + before + " 3:5 6;set 0 1;");
                Check.same("rule(1, " + value + ")", x.rule(1, value), before);
                Check.same("state(1)", x.state(1), value);
                Check.same("state(2)", x.state(2), 3);
                Check.same("all is built", x.state(10) * 10 + x.state(5), 20);
            }
        }
        for (int before = 1; before <= 8; before++) {
            for (int value = 1; value <= 8; value++) {
                DoubledRows x = Check.loaded("row 2 " + before + ":5 6;set 0 1;");
                Check.same("rule(2, " + value + ")", x.rule(2, value), before);
                Check.same("state(2)", x.state(2), value);
                Check.same("state(1)", x.state(1), 2);
                Check.same("nothing is built", x.state(10) * 10 + x.state(5), 11);
            }
        }
    }

    private static void ruleRefused() {
        Check.sentence("@throws IllegalArgumentException if what or value is out of range");
        for (int what : new int[] {Check.LEAST_INT, -1, 0, 3, 4, Check.GREATEST_INT}) {
            for (int value : new int[] {-1, 0, 1, 2, 8}) {
                String call = "rule(" + what + ", " + value + ")";
                Check.refused(call, Check.ARGUMENT, Check::busy, x -> x.rule(what, value));
            }
        }
        for (int value : new int[] {Check.LEAST_INT, -2, -1, 3, 4, 8, Check.GREATEST_INT}) {
            Check.refused("rule(1, " + value + ")", Check.ARGUMENT, Check::busy, x -> x.rule(1, value));
        }
        for (int value : new int[] {Check.LEAST_INT, -1, 0, 9, 10, Check.GREATEST_INT}) {
            Check.refused("rule(2, " + value + ")", Check.ARGUMENT, Check::busy, x -> x.rule(2, value));
        }
    }

    private static void undoOfEachMethod() {
        Check.sentence("Undoes the latest change that is not final and has not been undone.");
        List<Check.Call> changes = List.of(x -> x.set(0, 9), x -> x.set(4, -9), x -> x.ask(0, 4), x -> x.keep(0, 4),
            x -> x.forget(0), x -> x.forget(1), x -> x.sweep(1000), x -> x.sweep(-999), x -> x.put(0, 1),
            x -> x.put(5, 1), x -> x.take(0), x -> x.take(4), x -> x.rule(1, 0), x -> x.rule(1, 2),
            x -> x.rule(2, 8), x -> Check.load(x, "row 1 5:1;"));
        for (int rule = 0; rule <= 2; rule++) {
            for (int k = 0; k < changes.size(); k++) {
                DoubledRows x = Check.loaded("row " + rule + " 3:5 4 3 2 1;keep 0 2;keep 1 4;set 2 7;");
                Check.Call call = changes.get(k);
                long before = x.checksum();
                Check.answer(() -> call.on(x));
                Check.same("undo() of change " + k, x.undo(), 1);
                Check.same("checksum() behind undo() of change " + k, x.checksum(), before);
                Check.same("undo() of the load", x.undo(), 0);
                Check.same("checksum() behind undo() of the load", x.checksum(), new DoubledRows().checksum());
                Check.same("undo() of none", x.undo(), -1);
            }
        }
    }

    private static void undoLeavesBufferAndOffset() {
        Check.sentence("The input buffer and the error offset are not affected.");
        DoubledRows x = new DoubledRows();
        Check.load(x, "row 0 1:5 6;");
        x.set(0, 7);
        Check.load(x, "row 0 9:5;");
        Check.fill(x, "row 0 1:1 2 3;      ");
        Check.same("undo() of set", x.undo(), 1);
        Check.same("errorOffset() behind it", x.errorOffset(), 6);
        Check.same("undo() of load", x.undo(), 0);
        Check.same("errorOffset() behind undo() of load", x.errorOffset(), 6);
        Check.same("undo() of none", x.undo(), -1);
        Check.same("errorOffset() behind undo() of none", x.errorOffset(), 6);
        Check.raises("the buffer holds 20 bytes", Check.ARGUMENT, () -> x.load(21));
        Check.same("the buffer is as it was", x.load(20), 3);
        Check.same("undo() of this load", x.undo(), 0);
        Check.same("errorOffset() stays -1", x.errorOffset(), -1);
        Check.raises("what it read is not in the buffer again", Check.ARGUMENT, () -> x.load(1));
    }

    private static void undoOfNone() {
        Check.sentence("Returns the number of changes that can still be undone; -1 if there was none to undo, and"
            + " nothing changes then.");
        DoubledRows x = new DoubledRows();
        Check.same("when new", x.undo(), -1);
        Check.same("all behind undo() of none", Check.allOf(x), Check.allOf(new DoubledRows()));
        for (int made = 1; made <= 9; made++) {
            DoubledRows y = new DoubledRows();
            for (int value = 1; value <= made; value++) {
                y.set(0, value);
            }
            int most = Math.min(made, 8);
            for (int left = most - 1; left >= 0; left--) {
                Check.same("undo() of " + made, y.undo(), left);
            }
            long before = y.checksum();
            Check.same("undo() of none behind " + made, y.undo(), -1);
            Check.same("undo() of none behind " + made + " again", y.undo(), -1);
            Check.same("checksum() behind undo() of none", y.checksum(), before);
            y.set(0, 5);
            Check.same("a change behind it can be undone", y.undo(), 0);
            Check.same("checksum() behind that", y.checksum(), before);
        }
    }

    private static BigInteger checksumByHand(List<Integer> numbers) {
        BigInteger sum = BigInteger.ZERO;
        for (int n : numbers) {
            sum = sum.multiply(BigInteger.valueOf(31)).add(BigInteger.valueOf(n));
        }
        return sum;
    }

    private static void checksumOfTheLeast() {
        Check.sentence("It starts at 0; each number n in the following order replaces it by 31 * checksum + n,");
        // 13 numbers fit into a long: with one more it wraps around.
        List<Integer> numbers = List.of(1, 0, 2, 1, 0, 0, 0, 0, 0, 0, 1, 0, 0);
        Check.same("when new", new DoubledRows().checksum(), checksumByHand(numbers).longValueExact());
        List<Integer> less = List.of(1, 0, 1, 1, 0, 0, 0, 0, 0, 0, 1, -999, 0);
        Check.same("a value below 0", Check.loaded("row 0 1:-999;").checksum(), checksumByHand(less).longValueExact());
    }

    private static void checksumWrapsAround() {
        Check.sentence("wrapping around on overflow of a long:");
        for (int n : new int[] {1, 2, 39, 40}) {
            DoubledRows x = Check.rising(2, n);
            x.rule(2, 8);
            x.set(0, -999);
            x.set(n - 1, -998);
            x.keep(0, n - 1);
            BigInteger due = checksumByHand(numbersOf(x));
            Check.same("checksum() of " + n + " values", x.checksum(), due.longValue());
            Check.same("it wraps around at " + n, due.bitLength() > 63, (Object) true);
        }
    }

    private static List<Integer> numbersOf(DoubledRows x) {
        List<Integer> numbers = new ArrayList<>();
        for (int what = 0; what <= 10; what++) {
            numbers.add(x.state(what));
        }
        int count = x.state(0);
        for (int place = 0; place < count; place++) {
            numbers.add(x.value(place));
            numbers.add(x.waits(place) ? 1 : 0);
        }
        for (int level = 1; 1 << level <= count; level++) {
            for (int place = 0; place + (1 << level) <= count; place++) {
                numbers.add(x.cell(level, place));
            }
        }
        for (int k = 0; k < numbers.get(6); k++) {
            numbers.add(x.kept(k));
        }
        return numbers;
    }

    private static void checksumComputes() {
        Check.sentence("Computes a checksum.");
        for (int rule = 0; rule <= 2; rule++) {
            int r = rule;
            Supplier<DoubledRows> made = () -> Check.loaded("row " + r + " 8:5 4 3;keep 0 2;keep 1 1;set 0 1;");
            DoubledRows x = made.get();
            long first = x.checksum();
            Check.same("checksum() once more by rule " + rule, x.checksum(), first);
            Check.same("all behind checksum() by rule " + rule, Check.allOf(x), Check.allOf(made.get()));
        }
    }

    private static void checksumReturned() {
        Check.sentence("Returns the checksum.");
        Check.Call[] changes = {x -> x.set(0, 4), x -> x.set(2, -7), x -> x.ask(0, 3), x -> x.keep(0, 3),
            x -> x.forget(0), x -> x.forget(1), x -> x.sweep(5), x -> x.put(0, 5), x -> x.put(4, 5), x -> x.take(0),
            x -> x.take(3), x -> x.rule(1, 0), x -> x.rule(1, 1), x -> x.rule(2, 4), x -> Check.load(x, "row 0 1:5;")};
        List<Long> told = new ArrayList<>();
        for (Check.Call change : changes) {
            DoubledRows x = Check.loaded("row 2 3:5 4 3 2;keep 1 2;keep 2 3;set 1 4;");
            Check.answer(() -> change.on(x));
            long due = checksumByHand(numbersOf(x)).longValue();
            Check.same("checksum() behind change " + told.size(), x.checksum(), due);
            Check.same("no other change has this checksum", told.contains(due), (Object) false);
            told.add(due);
        }
    }

    private static void checksumOrder() {
        Check.sentence("state(0) to state(10); for each place its value, then 1 if it waits, otherwise 0; each cell"
            + " on the levels from 1 on, by rising levels, in each by rising places, as cell(int, int) tells it; each"
            + " kept stretch as kept(int) tells it.");
        List<Integer> numbers = List.of(4, 2, 3, 3, 4, 1, 2, 1, 4, 1, 1,
            9, 0, -5, 1, 7, 0, 6, 0,
            1, 2, 3, 3,
            3, 102);
        DoubledRows x = Check.loaded("row 2 3:9 8 7 6;keep 0 3;keep 1 2;ask 0 3;set 1 -5;");
        Check.same("checksum() of 4 values", x.checksum(), checksumByHand(numbers).longValue());
        Check.keptOnes("both ends of a kept stretch", x, 3, 102);
        for (int kept = 0; kept <= 8; kept++) {
            DoubledRows y = keeping(kept);
            Check.same("checksum() with " + kept + " kept", y.checksum(), checksumByHand(numbersOf(y)).longValue());
        }
    }
}
