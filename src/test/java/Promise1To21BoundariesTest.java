import java.util.Arrays;
import java.util.function.Supplier;

/**
 * Each sentence in the constants and in 'Promise 1' to 'Promise 21', one test each: at the boundary that it names, and
 * next to it on either side.
 */
public final class Promise1To21BoundariesTest {
    private static final int SPACES = 0x20202020;

    private Promise1To21BoundariesTest() {
    }

    public static void main(String[] args) {
        errorCodes();
        newObject();
        appendedBytes();
        appendToAFullBuffer();
        loadReadsTheFirstBytes();
        loadReadsNoMoreThanLength();
        loadReplacesAll();
        loadEmptiesTheBuffer();
        loadWithAnError();
        loadOfAnEmptyText();
        loadAnswers();
        loadOfAWrongLength();
        errorOffsets();
        stateNumbers();
        stateTellsThisNumber();
        stateSinceTheLatestLoad();
        stateOfWrongWhat();
        valueAtNoPlace();
        cellThatIsNone();
        cellAsWrittenLast();
        waitsAtNoPlace();
        leastOfSeveral();
        leastCountsNothing();
        leastOfWrongStretch();
        looksBehindWhatIsBuilt();
        looksOfWrongStretch();
        writesNow();
        aboveAPlace();
        aboveNoPlace();
        lessBehindIsNone();
        lessBehindNoPlace();
        rulesLeftmost();
        rulesOfNoPlace();
        sumOfExtremes();
        sumOfEachStretch();
        keptAsOneNumber();
        keptThatIsNone();
        looksOfNoneKept();
        bestRuleOfSeveral();
        bestRuleNextToAStretch();
        bestRuleAsItWouldCome();
        rankedOfSeveral();
        rankedTellsEachPlaceOnce();
        rankThatIsNone();
        gapIsZero();
        costWithoutQuestions();
        costAsFloat();
        Check.end();
    }

    private static void errorCodes() {
        Check.sentence("The constants: `SYNTAX_ERROR = -2`: Error code of load: the text does not follow the grammar.");
        Check.same("SYNTAX_ERROR", DoubledRows.SYNTAX_ERROR, -2);
        Check.same("load of row", Check.load(new DoubledRows(), "row"), -2);
        Check.sentence("`OUT_OF_RANGE = -3`: Error code of load: a number is not allowed.");
        Check.same("OUT_OF_RANGE", DoubledRows.OUT_OF_RANGE, -3);
        Check.same("load of rule 3", Check.load(new DoubledRows(), "row 3 1:1;"), -3);
        Check.sentence("`TOO_MANY = -4`: Error code of load: too many of something.");
        Check.same("TOO_MANY", DoubledRows.TOO_MANY, -4);
        Check.same("load of 9 kept", Check.load(new DoubledRows(), "row 0 1:1;" + "keep 0 0;".repeat(9)), -4);
        Check.sentence("`REFUSED = -5`: Error code of load: something that is refused.");
        Check.same("REFUSED", DoubledRows.REFUSED, -5);
        Check.same("load of take", Check.load(new DoubledRows(), "row 0 1:1;take 0;"), -5);
    }

    private static void newObject() {
        Check.sentence("Creates an object as by the text \"row 0 2:0;\", with an empty input buffer.");
        DoubledRows x = new DoubledRows();
        Check.states("new", x, 1, 0, 2, 1, 0, 0, 0, 0, 0, 0, 1);
        Check.values("new", x, 0);
        Check.same("errorOffset() when new", x.errorOffset(), -1);
        Check.same("undo() when new", x.undo(), -1);
        Check.raises("load(1) when new", Check.ARGUMENT, () -> x.load(1));
        Check.same("append when new", x.append(SPACES, SPACES, SPACES, SPACES, SPACES), 20);
        Check.same("as by the text", new DoubledRows().checksum(), Check.loaded("row 0 2:0;").checksum());
        DoubledRows first = new DoubledRows();
        DoubledRows second = new DoubledRows();
        first.put(0, 9);
        first.append(SPACES, SPACES, SPACES, SPACES, SPACES);
        Check.same("a second object is one by itself", Check.allOf(second), Check.allOf(new DoubledRows()));
    }

    private static void appendedBytes() {
        Check.sentence("Appends 20 bytes to the input buffer: the 4 bytes of each argument, the most significant byte"
            + " first.");
        for (int b : new int[] {0, 1, 31, 33, 127, 128, 129, 254, 255}) {
            for (int at = 0; at < 20; at++) {
                int[] words = {SPACES, SPACES, SPACES, SPACES, SPACES};
                int shift = 24 - at % 4 * 8;
                words[at / 4] = SPACES & ~(255 << shift) | b << shift;
                DoubledRows x = new DoubledRows();
                Check.same("append", x.append(words[0], words[1], words[2], words[3], words[4]), 20);
                Check.same("load with byte " + b, x.load(20), DoubledRows.SYNTAX_ERROR);
                Check.same("errorOffset() with byte " + b + " at " + at, x.errorOffset(), at);
            }
        }
        DoubledRows spaces = new DoubledRows();
        spaces.append(SPACES, SPACES, SPACES, SPACES, SPACES);
        spaces.load(20);
        Check.same("errorOffset() of 20 spaces", spaces.errorOffset(), 20);
        DoubledRows wide = new DoubledRows();
        wide.append(Check.LEAST_INT, 0, 0, 0, 0);
        Check.same("80 00 00 00", wide.load(20) * 100 + wide.errorOffset(), -200);
        wide.append(Check.GREATEST_INT, -1, -1, -1, -1);
        Check.same("7f ff ff ff", wide.load(20) * 100 + wide.errorOffset(), -200);
    }

    private static void appendToAFullBuffer() {
        Check.sentence("Returns the new length of the buffer; -1 if it would exceed 500 bytes, and the buffer is"
            + " unchanged then.");
        DoubledRows x = new DoubledRows();
        // "row 0 1:", then zeros, and "9;" as the last two bytes of the 500.
        String text = "row 0 1:" + "0".repeat(490) + "9;";
        int before = Check.rising(0, 1).state(0);
        for (int bytes = 20; bytes <= 480; bytes += 20) {
            String part = text.substring(bytes - 20, bytes);
            Check.same("append up to " + bytes, append(x, part), bytes);
        }
        Check.same("append up to 500", append(x, text.substring(480)), 500);
        Check.same("append beyond 500", append(x, "x".repeat(20)), -1);
        Check.same("append beyond 500 again", append(x, " ".repeat(20)), -1);
        Check.same("append is no change", x.undo(), -1);
        Check.raises("load(501)", Check.ARGUMENT, () -> x.load(501));
        Check.same("the text is as it was", x.load(500), before);
        Check.same("its value", x.value(0), 9);
        Check.same("append behind load", append(x, " ".repeat(20)), 20);
        DoubledRows twin = new DoubledRows();
        Check.fill(twin, text);
        DoubledRows full = new DoubledRows();
        Check.fill(full, text);
        append(full, "y".repeat(20));
        Check.same("all behind an append beyond 500", Check.allOf(full), Check.allOf(twin));
    }

    private static int append(DoubledRows x, String part) {
        int[] words = new int[5];
        for (int k = 0; k < 20; k++) {
            words[k / 4] = words[k / 4] << 8 | part.charAt(k);
        }
        return x.append(words[0], words[1], words[2], words[3], words[4]);
    }

    private static void loadReadsTheFirstBytes() {
        Check.sentence("Reads the first bytes of the input buffer as a setup text and replaces all data by it,"
            + " statement by statement.");
        String text = "row 0 1:5 6;take 0;!";
        int[] due = {-2, -2, 2, -2, 1, -2};
        int[] lengths = {10, 11, 12, 18, 19, 20};
        for (int k = 0; k < due.length; k++) {
            DoubledRows x = new DoubledRows();
            Check.fill(x, text);
            Check.same("load(" + lengths[k] + ")", x.load(lengths[k]), due[k]);
            Check.same("errorOffset() of load(" + lengths[k] + ")", x.errorOffset(),
                due[k] > 0 ? -1 : lengths[k] == 18 ? 18 : lengths[k] - (lengths[k] == 20 ? 1 : 0));
        }
    }

    private static void loadReadsNoMoreThanLength() {
        Check.sentence("`length`: the number of bytes to read");
        String text = "row 2 3:5 66 7;set 1 4 ;ask 0 1;keep 0 2;put 3 123;take 0;x";
        for (int length = 0; length <= text.length(); length++) {
            DoubledRows part = filled(text);
            DoubledRows alone = filled(text.substring(0, length));
            Check.same("load(" + length + ") of the longer text", part.load(length), alone.load(length));
            Check.same("all behind load(" + length + ")", Check.allOf(part), Check.allOf(alone));
        }
        DoubledRows full = filled("row 0 1:5;" + " ".repeat(489) + "x");
        Check.same("load(499): all but the last byte", full.load(499), 1);
    }

    private static void loadReplacesAll() {
        Check.sentence("replaces all data by it, statement by statement.");
        DoubledRows x = Check.rising(2, 40);
        for (int k = 0; k < 8; k++) {
            x.keep(k, 39);
        }
        x.set(39, -5);
        x.ask(0, 39);
        Check.load(x, "row 0 1:5;");
        Check.states("1 value behind 40", x, 1, 0, 1, 1, 0, 0, 0, 0, 0, 0, 1);
        Check.values("1 value behind 40", x, 5);
        Check.raises("kept(0)", Check.NO_ELEMENT, () -> x.kept(0));
        Check.same("checksum()", x.checksum(), Check.loaded("row 0 1:5;").checksum());
        x.put(1, 6);
        Check.same("what comes behind is not the old one", x.least(0, 1), 0);
        Check.load(x, "row 2 8:1 2;set 0 9;set 1 8;keep 0 1;ask 0 1;put 0 7;");
        Check.values("statement by statement", x, 7, 9, 8);
        Check.states("statement by statement", x, 3, 2, 8, 2, 2, 0, 1, 2, 1 + 2, 1, 2);
        Check.keptOnes("statement by statement", x, 102);
    }

    private static void loadEmptiesTheBuffer() {
        Check.sentence("The input buffer is empty afterwards, also if the text has an error.");
        String[] texts = {"row 0 1:5;", "row 0 1:5", "row 3 1:5;", "row 0 1:5;take 0;", "",
            "row 0 1:5;" + "keep 0 0;".repeat(9)};
        for (String text : texts) {
            DoubledRows x = new DoubledRows();
            Check.fill(x, text);
            x.load(text.length());
            Check.raises("load(1) behind load of " + text, Check.ARGUMENT, () -> x.load(1));
            Check.same("append behind load of " + text, append(x, "row 0 1:7 8;xxxxxxxx"), 20);
            Check.same("the next load behind load of " + text, x.load(12), 2);
        }
        DoubledRows part = new DoubledRows();
        Check.fill(part, "row 0 1:5;row 0 1:6;");
        Check.same("load of a part", part.load(10), 1);
        Check.raises("the rest is gone", Check.ARGUMENT, () -> part.load(1));
        Check.fill(part, "row 0 1:5;row 0 1:6;");
        Check.same("load of nothing of it", part.load(0), DoubledRows.SYNTAX_ERROR);
        Check.raises("all is gone", Check.ARGUMENT, () -> part.load(1));
    }

    private static void loadWithAnError() {
        Check.sentence("An error leaves all other data unchanged.");
        String[] texts = {"", "x", "row 3 1:5;", "row 1 1:5 6 7", "row 1 1:5 6 7;set 0 9;keep 0 1;take 9;",
            "row 1 1:5;take 0;", "row 1 1:5;ask 0 0;" + "keep 0 0;".repeat(9), "row 1 1:" + "7 ".repeat(41) + ";"};
        for (String text : texts) {
            DoubledRows x = Check.busy();
            DoubledRows due = Check.busy();
            // What is in the buffer is read first, so that the text stands there alone.
            x.load(0);
            due.load(0);
            Check.load(x, text);
            Check.same("a change behind load of " + text, x.set(0, 5), due.set(0, 5));
            Check.same("checksum() behind load of " + text, x.checksum(), due.checksum());
            for (int left = 7; left >= -1; left--) {
                Check.same("undo() behind load of " + text, x.undo(), left);
                due.undo();
                Check.same("checksum() behind undo() and load of " + text, x.checksum(), due.checksum());
            }
        }
    }

    private static void loadOfAnEmptyText() {
        Check.sentence("An empty text has a SYNTAX_ERROR.");
        DoubledRows x = new DoubledRows();
        Check.same("load(0)", x.load(0), DoubledRows.SYNTAX_ERROR);
        Check.same("errorOffset() of load(0)", x.errorOffset(), 0);
        append(x, "row 0 1:5;          ");
        Check.same("load(0) of a buffer that is not empty", x.load(0), DoubledRows.SYNTAX_ERROR);
        Check.same("errorOffset() of it", x.errorOffset(), 0);
        append(x, " ".repeat(20));
        Check.same("load(1) of a space", x.load(1), DoubledRows.SYNTAX_ERROR);
        Check.same("errorOffset() of a space", x.errorOffset(), 1);
        Check.same("it is no change", x.undo(), -1);
    }

    private static void loadAnswers() {
        Check.sentence("Returns the number of values; or the error code of the first error.");
        DoubledRows x = new DoubledRows();
        Check.same("1 value", Check.load(x, "row 0 1:5;"), 1);
        Check.same("40 values", Check.load(x, "row 0 1:" + "7 ".repeat(40) + ";"), 40);
        Check.same("behind put and take", Check.load(x, "row 0 1:5;put 0 1;put 0 1;take 0;"), 2);
        Check.same("SYNTAX_ERROR", Check.load(x, "row 0 1:5;take"), -2);
        Check.same("OUT_OF_RANGE", Check.load(x, "row 0 1:5;take 1;take 0;"), -3);
        Check.same("TOO_MANY", Check.load(x, "row 0 1:" + "7 ".repeat(41)), -4);
        Check.same("REFUSED", Check.load(x, "row 0 1:5;take 0;take 1;"), -5);
    }

    private static void loadOfAWrongLength() {
        Check.sentence("Throws `IllegalArgumentException` if length is negative or greater than the length of the"
            + " buffer; the buffer is unchanged then");
        String text = "row 0 1:1 2 3;set 0 7;";
        for (int length : new int[] {Check.LEAST_INT, -41, -2, -1, 41, 42, 500, 501, Check.GREATEST_INT}) {
            Check.refused("load(" + length + ") of 40 bytes", Check.ARGUMENT, () -> filled(text), x -> x.load(length));
            DoubledRows x = filled(text);
            Check.answer(() -> x.load(length));
            Check.same("load(40) behind load(" + length + ")", x.load(40), 3);
        }
        Check.same("load(0) of 40 bytes", filled(text).load(0), -2);
        Check.same("load(1) of 40 bytes", filled(text).load(1), -2);
        Check.same("load(39) of 40 bytes", filled(text).load(39), 3);
        Check.same("load(40) of 40 bytes", filled(text).load(40), 3);
        Check.refused("load(1) of none", Check.ARGUMENT, DoubledRows::new, x -> x.load(1));
        Check.refused("load(-1) of none", Check.ARGUMENT, DoubledRows::new, x -> x.load(-1));
        Check.same("load(0) of none", new DoubledRows().load(0), -2);
    }

    private static DoubledRows filled(String text) {
        DoubledRows x = new DoubledRows();
        Check.fill(x, text);
        return x;
    }

    private static void errorOffsets() {
        Check.sentence("Returns the offset of the error found by the latest call of load that did not throw; -1 if it"
            + " found none or if there was no such call.");
        DoubledRows x = new DoubledRows();
        Check.same("no such call", x.errorOffset(), -1);
        Check.raises("load(1)", Check.ARGUMENT, () -> x.load(1));
        Check.same("a call that threw alone", x.errorOffset(), -1);
        x.load(0);
        Check.same("the least offset", x.errorOffset(), 0);
        Check.load(x, "row 0 1:5;" + " ".repeat(489) + "!");
        Check.same("offset 499", x.errorOffset(), 499);
        Check.load(x, "row 0 1:5" + " ".repeat(491));
        Check.same("offset 500", x.errorOffset(), 500);
        Check.raises("load(-1)", Check.ARGUMENT, () -> x.load(-1));
        Check.same("a call that threw behind an error", x.errorOffset(), 500);
        Check.load(x, "row 0 1:5;");
        Check.same("none found", x.errorOffset(), -1);
        Check.raises("load(1)", Check.ARGUMENT, () -> x.load(1));
        Check.same("a call that threw behind none", x.errorOffset(), -1);
        x.undo();
        Check.same("undo() leaves it", x.errorOffset(), -1);
        append(x, "x".repeat(20));
        Check.same("append leaves it", x.errorOffset(), -1);
    }

    private static void stateNumbers() {
        Check.sentence("`what`: 0 values, 1 rule, 2 most, 3 levels, 4 cells on the levels from 1 on, 5 places that"
            + " wait, 6 kept stretches, 7 looks since the latest load (also by its text; likewise the following"
            + " ones), 8 cells that were written, 9 questions, 10 how often all was built");
        Check.states("the least row", Check.loaded("row 0 1:5;"), 1, 0, 1, 1, 0, 0, 0, 0, 0, 0, 1);
        DoubledRows x = Check.rising(2, 40);
        x.rule(2, 8);
        for (int k = 0; k < 8; k++) {
            x.keep(0, 39);
            x.set(k, 5);
        }
        Check.states("the greatest row", x, 40, 2, 8, 6, 143, 8, 8, 0, 143, 0, 1);
        x.sweep(-999);
        Check.states("the greatest row, swept", x, 40, 2, 8, 6, 143, 8, 8, 8 * (8 + 1), 143, 8, 1);
        x.rule(1, 0);
        Check.states("its rule set", x, 40, 0, 8, 6, 143, 0, 8, 72, 286, 8, 2);
    }

    private static void stateTellsThisNumber() {
        Check.sentence("Returns this number.");
        DoubledRows x = Check.rising(2, 17);
        x.rule(2, 8);
        x.put(17, 18);
        x.take(17);
        for (int k = 0; k < 6; k++) {
            x.keep(k, 16);
        }
        for (int place = 3; place < 10; place++) {
            x.set(place, 1);
        }
        x.sweep(-999);
        x.ask(16, 16);
        x.ask(16, 16);
        x.ask(16, 16);
        // 7 wait, places 3 to 9: the kept stretches hold 7, 7, 7, 7, 6 and 5 of them, and a run of 7 behind them.
        int looks = (2 + 7 + 2) + (1 + 7 + 2) + (1 + 7 + 2) + (7 + 2) + (6 + 2) + (5 + 2) + 3;
        int[] due = {17, 2, 8, 5, 42, 7, 6, looks, 42 + 46 + 42, 9, 3};
        Check.same("no two of them are the same", Arrays.stream(due).distinct().count(), 11);
        Check.states("all of them", x, due);
        for (int what = 0; what <= 10; what++) {
            Check.same("state(" + what + ") once more", x.state(what), due[what]);
        }
    }

    private static void stateSinceTheLatestLoad() {
        Check.sentence("7 looks since the latest load (also by its text; likewise the following ones)");
        DoubledRows x = Check.loaded("row 1 3:1 2 3;ask 0 2;ask 1 1;set 0 0;put 0 0;take 0;");
        // Written: 2 behind the values, 1 by set, 4 by put, 2 by take.
        Check.states("by its text", x, 3, 1, 3, 2, 2, 0, 0, 3, 2 + 1 + 4 + 2, 2, 3);
        x.ask(0, 1);
        Check.states("and since", x, 3, 1, 3, 2, 2, 0, 0, 4, 9, 3, 3);
        Check.load(x, "row 3 1:1;");
        Check.states("a load with an error begins nothing", x, 3, 1, 3, 2, 2, 0, 0, 4, 9, 3, 3);
        Check.raises("load(1)", Check.ARGUMENT, () -> x.load(1));
        Check.states("nor does one that throws", x, 3, 1, 3, 2, 2, 0, 0, 4, 9, 3, 3);
        Check.load(x, "row 0 1:1 2;");
        Check.states("a load begins anew", x, 2, 0, 1, 2, 1, 0, 0, 0, 1, 0, 1);
        x.undo();
        Check.states("undo() of it brings back what was", x, 3, 1, 3, 2, 2, 0, 0, 4, 9, 3, 3);
    }

    private static void stateOfWrongWhat() {
        Check.sentence("Throws `IllegalArgumentException` if what is out of range");
        for (int what = 0; what <= 10; what++) {
            int w = what;
            String answer = Check.answer(() -> Check.busy().state(w));
            Check.same("state(" + what + ") throws", answer.startsWith("throws."), (Object) false);
        }
        for (int what : new int[] {Check.LEAST_INT, -2, -1, 11, 12, Check.GREATEST_INT}) {
            Check.refused("state(" + what + ")", Check.ARGUMENT, Check::busy, x -> x.state(what));
        }
    }

    private static void valueAtNoPlace() {
        Check.sentence("Returns a value @throws IndexOutOfBoundsException if there is no such place.");
        DoubledRows x = Check.loaded("row 0 1:-999 0 999;");
        Check.values("first, middle and last", x, -999, 0, 999);
        Check.raises("value(-1)", Check.BOUNDS, () -> x.value(-1));
        Check.raises("value(3)", Check.BOUNDS, () -> x.value(3));
        x.take(0);
        Check.raises("value(2) behind take", Check.BOUNDS, () -> x.value(2));
        x.put(0, 5);
        Check.same("value(2) behind put", x.value(2), 999);
    }

    private static void cellThatIsNone() {
        Check.sentence("@param level from 0 @throws IndexOutOfBoundsException if there is no such place @throws"
            + " NoSuchElementException if there is no such cell.");
        for (int n : new int[] {1, 2, 3, 4, 31, 32, 33, 40}) {
            Supplier<DoubledRows> made = () -> Check.rising(0, n);
            int levels = made.get().state(3);
            for (int level = 0; level < levels; level++) {
                int k = level;
                int last = n - (1 << level);
                Check.same("the last cell on level " + k + " of " + n, made.get().cell(k, last), last);
                if (level > 0) {
                    Check.refused("one cell more on level " + k, Check.NO_ELEMENT, made, x -> x.cell(k, last + 1));
                }
            }
            for (int level : new int[] {Check.LEAST_INT, -32, -31, -1, levels, levels + 1, 31, 32, 33, 63, 64, 65,
                Check.GREATEST_INT}) {
                Check.refused("cell(" + level + ", 0) of " + n, Check.NO_ELEMENT, made, x -> x.cell(level, 0));
                Check.refused("cell(" + level + ", n) of " + n, Check.BOUNDS, made, x -> x.cell(level, n));
                Check.refused("cell(" + level + ", -1) of " + n, Check.BOUNDS, made, x -> x.cell(level, -1));
            }
        }
    }

    private static void cellAsWrittenLast() {
        Check.sentence("Returns what a cell tells, as it was written last (on level 0 the place itself)");
        for (int rule = 0; rule <= 2; rule++) {
            DoubledRows x = Check.loaded("row " + rule + " 1:5 4 5;set 1 6;set 2 3;");
            // By rule 2 the second set is one more than most.
            int[] due = rule == 0 ? new int[] {1, 1} : new int[] {0, 2};
            Check.cells("by rule " + rule, x, 1, due);
            Check.cells("by rule " + rule, x, 0, 0, 1, 2);
            x.rule(1, 0);
            Check.cells("by rule " + rule + ", built", x, 1, 0, 2);
        }
    }

    private static void waitsAtNoPlace() {
        Check.sentence("Returns whether a place waits @throws IndexOutOfBoundsException if there is no such place.");
        for (int place : new int[] {0, 1, 30, 31, 32, 33, 38, 39}) {
            DoubledRows x = Check.rising(0, 40);
            x.set(place, 0);
            for (int other = 0; other < 40; other++) {
                Check.same("waits(" + other + ") behind set(" + place + ")", x.waits(other), (Object) (other == place));
            }
            Check.raises("waits(-1)", Check.BOUNDS, () -> x.waits(-1));
            Check.raises("waits(40)", Check.BOUNDS, () -> x.waits(40));
            Check.raises("waits(64)", Check.BOUNDS, () -> x.waits(64));
        }
    }

    private static void leastOfSeveral() {
        Check.sentence("Returns the place of the least value of a stretch, of several the leftmost one");
        DoubledRows x = Check.loaded("row 2 8:-999 5 5 -999 999;");
        Check.same("least(0, 4)", x.least(0, 4), 0);
        Check.same("least(1, 4)", x.least(1, 4), 3);
        Check.same("least(1, 2)", x.least(1, 2), 1);
        Check.same("least(2, 2)", x.least(2, 2), 2);
        Check.same("least(4, 4)", x.least(4, 4), 4);
        x.set(0, 999);
        x.set(3, 999);
        x.set(1, 999);
        x.set(2, 999);
        Check.same("least(0, 4), all the greatest", x.least(0, 4), 0);
        Check.same("least(1, 4), all the greatest", x.least(1, 4), 1);
    }

    private static void leastCountsNothing() {
        Check.sentence("(no question is counted)");
        for (int rule = 0; rule <= 2; rule++) {
            int r = rule;
            Supplier<DoubledRows> made = () -> Check.loaded("row " + r + " 8:5 4 3;keep 0 2;keep 1 1;set 0 1;");
            DoubledRows x = made.get();
            x.least(0, 2);
            x.looks(0, 2);
            x.writes();
            x.looksOfKept();
            x.bestRule(0);
            x.ranked(0);
            x.gap();
            Check.same("all behind least by rule " + rule, Check.allOf(x), Check.allOf(made.get()));
        }
    }

    private interface OfStretch {
        Object call(DoubledRows x, int from, int to);
    }

    private static void refusesWrongStretches(String name, OfStretch method) {
        for (int place : new int[] {Check.LEAST_INT, -1, 5, 6, 40, Check.GREATEST_INT}) {
            Check.refused(name + "(0, " + place + ")", Check.BOUNDS, Check::busy, x -> method.call(x, 0, place));
            Check.refused(name + "(" + place + ", 4)", Check.BOUNDS, Check::busy, x -> method.call(x, place, 4));
        }
        for (int from = 1; from <= 4; from++) {
            int f = from;
            Check.refused(name + "(" + f + ", 0)", Check.ARGUMENT, Check::busy, x -> method.call(x, f, 0));
            Check.refused(name + "(" + f + ", one less)", Check.ARGUMENT, Check::busy, x -> method.call(x, f, f - 1));
        }
    }

    private static void leastOfWrongStretch() {
        Check.sentence("of several the leftmost one (no question is counted) @throws IndexOutOfBoundsException if"
            + " there are no such places @throws IllegalArgumentException if from is greater than to.");
        refusesWrongStretches("least", (x, from, to) -> x.least(from, to));
    }

    private static void looksOfWrongStretch() {
        Check.sentence("behind all that is built for it @throws IndexOutOfBoundsException if there are no such places"
            + " @throws IllegalArgumentException if from is greater than to.");
        refusesWrongStretches("looks", (x, from, to) -> x.looks(from, to));
    }

    private interface AtPlace {
        Object call(DoubledRows x, int place);
    }

    private static void refusesNoPlaces(String name, AtPlace method) {
        for (int place : new int[] {Check.LEAST_INT, -32, -1, 5, 6, 40, 64, Check.GREATEST_INT}) {
            Check.refused(name + "(" + place + ")", Check.BOUNDS, Check::busy, x -> method.call(x, place));
        }
        for (int place = 0; place < 5; place++) {
            int p = place;
            String answer = Check.answer(() -> method.call(Check.busy(), p));
            Check.same(name + "(" + place + ") throws", answer.startsWith("throws."), (Object) false);
        }
    }

    private static void aboveNoPlace() {
        Check.sentence("tell of a place @throws IndexOutOfBoundsException if there is no such place.");
        refusesNoPlaces("above", (x, place) -> x.above(place));
    }

    private static void lessBehindNoPlace() {
        Check.sentence("-1 if there is none @throws IndexOutOfBoundsException if there is no such place.");
        refusesNoPlaces("lessBehind", (x, place) -> x.lessBehind(place));
    }

    private static void rulesOfNoPlace() {
        Check.sentence("(the leftmost one counts) @throws IndexOutOfBoundsException if there is no such place.");
        refusesNoPlaces("rules", (x, place) -> x.rules(place));
    }

    private static void sumOfEachStretch() {
        Check.sentence("Returns the sum of the values of a stretch @throws IndexOutOfBoundsException if there are no"
            + " such places @throws IllegalArgumentException if from is greater than to.");
        DoubledRows x = Check.loaded("row 2 8:1 -20 300 -4 50;set 1 -21;");
        int[] values = {1, -21, 300, -4, 50};
        for (int from = 0; from < 5; from++) {
            int due = 0;
            for (int to = from; to < 5; to++) {
                due += values[to];
                Check.same("sum(" + from + ", " + to + ")", x.sum(from, to), due);
            }
        }
        refusesWrongStretches("sum", (y, from, to) -> y.sum(from, to));
    }

    private static void looksBehindWhatIsBuilt() {
        Check.sentence("Returns how many looks a question would cost now, behind all that is built for it");
        DoubledRows zero = Check.loaded("row 0 8:5 4 3 2;set 0 1;set 1 1;");
        Check.same("looks(0, 3) by rule 0: none waits behind the build", zero.looks(0, 3), 1);
        Check.same("looks(0, 2) by rule 0", zero.looks(0, 2), 2);
        Check.same("looks(0, 0) by rule 0", zero.looks(0, 0), 1);
        Check.same("they still wait", zero.state(5), 2);
        DoubledRows two = Check.loaded("row 2 8:5 4 3 2;set 0 1;set 1 1;");
        Check.same("looks(0, 3) by rule 2: two wait", two.looks(0, 3), 3);
        Check.same("looks(0, 2) by rule 2", two.looks(0, 2), 3);
        Check.same("looks(1, 2) by rule 2", two.looks(1, 2), 2);
        Check.same("looks(2, 3) by rule 2", two.looks(2, 3), 1);
        DoubledRows one = Check.loaded("row 1 8:5 4 3 2;set 0 1;set 1 1;");
        Check.same("looks(0, 3) by rule 1: none waits", one.looks(0, 3), 1);
    }

    private static void writesNow() {
        Check.sentence("Returns how many cells would be written ahead of a question now.");
        for (int n : new int[] {1, 2, 3, 40}) {
            for (int rule = 0; rule <= 2; rule++) {
                DoubledRows x = Check.rising(rule, n);
                x.rule(2, 8);
                String when = n + " values by rule " + rule;
                Check.same(when + ", none waits", x.writes(), 0);
                x.set(n - 1, 0);
                Check.same(when + ", one was set", x.writes(), rule == 0 ? x.state(4) : 0);
                x.set(0, 0);
                Check.same(when + ", two were set", x.writes(), rule == 0 ? x.state(4) : 0);
                int written = x.state(8);
                int due = x.writes();
                x.ask(0, 0);
                Check.same(when + ": what the question wrote", x.state(8) - written, due);
                Check.same(when + ", behind the question", x.writes(), 0);
            }
        }
    }

    private static void aboveAPlace() {
        Check.sentence("Returns how many cells on the levels from 1 on tell of a place");
        for (int n = 1; n <= 40; n++) {
            DoubledRows x = Check.rising(0, n);
            for (int place = 0; place < n; place++) {
                int due = 0;
                for (int width = 2; width <= n; width *= 2) {
                    for (int first = 0; first + width <= n; first++) {
                        due += first <= place && place < first + width ? 1 : 0;
                    }
                }
                Check.same("above(" + place + ") of " + n, x.above(place), due);
            }
            int end = n;
            Check.raises("above(-1) of " + n, Check.BOUNDS, () -> x.above(-1));
            Check.raises("above(n) of " + n, Check.BOUNDS, () -> x.above(end));
        }
    }

    private static void lessBehindIsNone() {
        Check.sentence("Returns the first place behind a place at which the value is less than there; -1 if there is"
            + " none");
        DoubledRows x = Check.loaded("row 2 8:5 5 6 4 4 3;");
        int[] due = {3, 3, 3, 5, 5, -1};
        for (int place = 0; place < due.length; place++) {
            Check.same("lessBehind(" + place + ")", x.lessBehind(place), due[place]);
        }
        Check.same("of one value", new DoubledRows().lessBehind(0), -1);
        Check.same("all the same", Check.loaded("row 0 1:5 5 5;").lessBehind(0), -1);
        Check.same("rising", Check.loaded("row 0 1:5 6 7;").lessBehind(0), -1);
        Check.same("less by one at the last place", Check.loaded("row 0 1:5 5 4;").lessBehind(0), 2);
        Check.same("less ahead of it alone", Check.loaded("row 0 1:4 5 5;").lessBehind(1), -1);
        DoubledRows wide = Check.rising(0, 40);
        Check.same("40 values, rising", wide.lessBehind(0), -1);
        wide.set(39, 0);
        Check.same("40 values, the last one less", wide.lessBehind(0), 39);
        Check.same("the last place", wide.lessBehind(39), -1);
    }

    private static void rulesLeftmost() {
        Check.sentence("Returns how many stretches there are whose least value is told at this place (the leftmost"
            + " one counts)");
        Check.same("of one value", new DoubledRows().rules(0), 1);
        DoubledRows same = Check.loaded("row 0 1:5 5 5 5;");
        for (int place = 0; place < 4; place++) {
            Check.same("all the same: rules(" + place + ")", same.rules(place), 4 - place);
        }
        DoubledRows rising = Check.rising(0, 40);
        DoubledRows falling = Check.loaded("row 0 1:9 8 7 6 5;");
        Check.same("rising: rules(0)", rising.rules(0), 40);
        Check.same("rising: rules(39)", rising.rules(39), 1);
        Check.same("falling: rules(0)", falling.rules(0), 1);
        Check.same("falling: rules(4)", falling.rules(4), 5);
        DoubledRows middle = Check.loaded("row 0 1:5 4 5 4 5;");
        Check.same("the same on the left: rules(3)", middle.rules(3), 2 * 2);
        Check.same("the same on the right: rules(1)", middle.rules(1), 2 * 4);
        DoubledRows greatest = Check.rising(0, 40);
        greatest.set(20, -5);
        Check.same("the least one in 40: rules(20)", greatest.rules(20), 21 * 20);
        int all = 0;
        for (int place = 0; place < 40; place++) {
            all += greatest.rules(place);
        }
        Check.same("each stretch counts once", all, 40 * 41 / 2);
    }

    private static void sumOfExtremes() {
        Check.sentence("Returns the sum of the values of a stretch");
        DoubledRows greatest = Check.loaded("row 0 1:" + "999 ".repeat(40) + ";");
        Check.same("40 times 999", greatest.sum(0, 39), 39960);
        Check.same("39 times 999", greatest.sum(1, 39), 38961);
        Check.same("once 999", greatest.sum(39, 39), 999);
        DoubledRows least = Check.loaded("row 0 1:" + "-999".repeat(40) + ";");
        Check.same("40 times -999", least.sum(0, 39), -39960);
        Check.same("39 times -999", least.sum(0, 38), -38961);
        Check.same("once -999", least.sum(0, 0), -999);
    }

    private static void keptAsOneNumber() {
        Check.sentence("Returns of a kept stretch 100 times its first place, and its last one, together");
        DoubledRows x = Check.rising(0, 40);
        x.keep(0, 0);
        x.keep(0, 39);
        x.keep(39, 39);
        x.keep(1, 1);
        x.keep(0, 1);
        x.keep(9, 10);
        Check.keptOnes("kept", x, 0, 39, 3939, 101, 1, 910);
    }

    private static void keptThatIsNone() {
        Check.sentence("@param k from 0 @throws NoSuchElementException if there are not so many.");
        for (int kept = 0; kept <= 8; kept++) {
            String text = "row 0 1:5 6;" + "keep 0 1;".repeat(kept);
            Supplier<DoubledRows> made = () -> Check.loaded(text);
            for (int k = 0; k < kept; k++) {
                Check.same("kept(" + k + ") of " + kept, made.get().kept(k), 1);
            }
            for (int k : new int[] {Check.LEAST_INT, -2, -1, kept, kept + 1, 8, 9, Check.GREATEST_INT}) {
                Check.refused("kept(" + k + ") of " + kept, Check.NO_ELEMENT, made, x -> x.kept(k));
            }
        }
        DoubledRows x = Check.loaded("row 0 1:5 6;keep 0 1;keep 1 1;");
        x.forget(0);
        Check.raises("kept(1) behind forget", Check.NO_ELEMENT, () -> x.kept(1));
    }

    private static void looksOfNoneKept() {
        Check.sentence("Returns how many looks all kept stretches would cost together, if they were asked one after"
            + " the other now.");
        String row = "row 2 8:5 6 7 8;";
        Check.same("none is kept", Check.loaded(row).looksOfKept(), 0);
        Check.same("one is kept", Check.loaded(row + "keep 0 2;").looksOfKept(), 2);
        Check.same("eight are kept", Check.loaded(row + "keep 0 2;".repeat(8)).looksOfKept(), 16);
        String allSet = "keep 0 3;keep 3 3;set 0 1;set 1 1;set 2 1;set 3 1;";
        Check.same("all wait", Check.loaded(row + allSet).looksOfKept(), 5);
        DoubledRows zero = Check.loaded("row 0 8:5 6 7 8;" + allSet);
        Check.same("all wait by rule 0: none behind the first question", zero.looksOfKept(), 2);
        Check.same("they still wait", zero.state(5), 4);
    }

    private static void bestRuleOfSeveral() {
        Check.sentence("of several the smallest @throws IndexOutOfBoundsException if there is no such place.");
        Check.same("nothing to ask: all but rule 1 cost nothing", Check.loaded("row 2 8:5 6;").bestRule(0), 0);
        Check.same("one value, asked: all cost 1", Check.loaded("row 2 8:5;keep 0 0;").bestRule(0), 0);
        // Both 0 and 1: 1 cell and 1 look; by rule 2 2 looks.
        Check.same("two values, asked: all cost 2", Check.loaded("row 2 8:5 6;keep 0 1;").bestRule(0), 0);
        Check.same("two values, asked alone: rule 2 costs less", Check.loaded("row 0 8:5 6;keep 0 0;").bestRule(0), 2);
        Check.same("twice: rule 2 costs more", Check.loaded("row 2 8:5 6;keep 0 1;keep 0 1;").bestRule(0), 0);
        // 4 values: rule 0 writes 4 cells, rule 1 2 or 3; by rule 2 3 looks at an end, and 3 next to it.
        DoubledRows once = Check.loaded("row 0 8:5 6 7 8;keep 0 3;");
        Check.same("rules 1 and 2 cost the same", once.bestRule(0), 1);
        Check.same("rule 1 costs one more than rule 2", once.bestRule(1), 2);
        Check.same("rule 1 costs one less", Check.loaded("row 0 8:5 6 7 8;keep 0 3;keep 2 3;keep 0 1;").bestRule(0), 1);
        Check.raises("bestRule(-1)", Check.BOUNDS, () -> once.bestRule(-1));
        Check.raises("bestRule(4)", Check.BOUNDS, () -> once.bestRule(4));
    }

    private static void bestRuleNextToAStretch() {
        Check.sentence("if no place waited now and the rule was this, a value was set at a place (to what it is), and"
            + " all kept stretches were asked behind that, one after the other;");
        // 3 looks at each of them if a place in it waits, otherwise 1; by rule 1 6 cells tell of its ends, and 7 of
        // the places between these.
        int[][] due = {{2, 2, 2, 2, 2, 2, 2, 2}, {2, 2, 1, 2, 2, 1, 2, 2}, {2, 2, 1, 1, 1, 1, 2, 2}};
        String[] rows = {"row 0 1:", "row 1 1:", "row 2 1:", "row 2 8:"};
        for (String row : rows) {
            for (int kept = 2; kept <= 4; kept++) {
                DoubledRows x = Check.loaded(row + "1 2 3 4 5 6 7 8;" + "keep 2 5;".repeat(kept) + "set 4 0;");
                for (int place = 0; place < 8; place++) {
                    String call = row + " bestRule(" + place + ") with " + kept + " kept";
                    Check.same(call, x.bestRule(place), due[kept - 2][place]);
                }
            }
        }
        String three = "row 0 1:1 2 3;";
        Check.same("one kept: 4, 4 and 3", Check.loaded(three + "keep 0 2;").bestRule(1), 2);
        Check.same("two kept: 6, 6 and 6", Check.loaded(three + "keep 0 2;".repeat(2)).bestRule(1), 0);
        Check.same("three kept: 8, 8 and 9", Check.loaded(three + "keep 0 2;".repeat(3)).bestRule(1), 0);
    }

    private static void bestRuleAsItWouldCome() {
        Check.sentence("Returns the rule (0 to 2) by which the fewest looks and writes together would come, if no"
            + " place waited now and the rule was this, a value was set at a place (to what it is), and all kept"
            + " stretches were asked behind that, one after the other; of several the smallest");
        int[] told = new int[3];
        for (int n = 1; n <= 11; n++) {
            String values = ":" + "7 ".repeat(n) + ";";
            for (int kind = 0; kind < 12; kind++) {
                String kept = keptStretches(n, kind);
                for (int place = 0; place < n; place++) {
                    int due = cheapestRule(values + kept, place);
                    DoubledRows x = Check.loaded("row " + kind % 3 + " 8" + values + kept + "set 0 5;");
                    String call = "bestRule(" + place + ") of " + n + " values with " + kept;
                    Check.same(call, x.bestRule(place), due);
                    told[due]++;
                }
            }
        }
        for (int rule = 0; rule <= 2; rule++) {
            Check.same("rule " + rule + " is the best one at times", told[rule] > 0, (Object) true);
        }
    }

    /** One to four times a stretch, or none, as statements. */
    private static String keptStretches(int count, int kind) {
        int from = kind * 5 % count;
        int to = from + (count - 1 - from) * (kind % 4 + 1) / 4;
        return ("keep " + from + " " + to + ";").repeat(kind % 5);
    }

    /** What comes by each rule is counted by objects of that rule: the document says what they do. */
    private static int cheapestRule(String rest, int place) {
        int cheapest = 0;
        int least = Check.GREATEST_INT;
        for (int rule = 0; rule <= 2; rule++) {
            DoubledRows would = Check.loaded("row " + rule + " 1" + rest);
            int before = would.state(7) + would.state(8);
            would.set(place, would.value(place));
            for (int k = 0; k < would.state(6); k++) {
                would.ask(would.kept(k) / 100, would.kept(k) % 100);
            }
            int cost = would.state(7) + would.state(8) - before;
            cheapest = cost < least ? rule : cheapest;
            least = Math.min(cost, least);
        }
        return cheapest;
    }

    private static void rankedTellsEachPlaceOnce() {
        Check.sentence("Returns the places by their values: the one at a rank, from 0; first the one with the least,"
            + " of several the leftmost one");
        for (int n = 1; n <= 40; n++) {
            DoubledRows x = Check.rising(0, n);
            for (int place = 0; place < n; place++) {
                x.set(place, place * 7 % 5 - 2);
            }
            int before = -1;
            for (int rank = 0; rank < n; rank++) {
                int place = x.ranked(rank);
                String call = "ranked(" + rank + ") of " + n;
                // Rising values, and rising places of one value: so no place is told twice.
                if (rank > 0) {
                    int more = Integer.compare(x.value(place), x.value(before));
                    Check.same(call + " is behind the one before", more > 0 || more == 0 && place > before,
                        (Object) true);
                }
                before = place;
            }
        }
    }

    private static void rankedOfSeveral() {
        Check.sentence("the one at a rank, from 0; first the one with the least, of several the leftmost one");
        DoubledRows same = Check.rising(0, 40);
        for (int place = 0; place < 40; place++) {
            same.set(place, -7);
        }
        for (int rank = 0; rank < 40; rank++) {
            Check.same("all the same: ranked(" + rank + ")", same.ranked(rank), rank);
        }
        DoubledRows falling = Check.loaded("row 0 1:999 1 0 -1 -999;");
        for (int rank = 0; rank < 5; rank++) {
            Check.same("falling: ranked(" + rank + ")", falling.ranked(rank), 4 - rank);
        }
        DoubledRows mixed = Check.loaded("row 0 1:5 4 5 4 5;");
        int[] due = {1, 3, 0, 2, 4};
        for (int rank = 0; rank < 5; rank++) {
            Check.same("mixed: ranked(" + rank + ")", mixed.ranked(rank), due[rank]);
        }
    }

    private static void rankThatIsNone() {
        Check.sentence("@throws NoSuchElementException if there is no such rank.");
        for (int n : new int[] {1, 2, 39, 40}) {
            Supplier<DoubledRows> made = () -> Check.rising(0, n);
            Check.same("ranked(0) of " + n, made.get().ranked(0), 0);
            Check.same("ranked(n - 1) of " + n, made.get().ranked(n - 1), n - 1);
            for (int rank : new int[] {Check.LEAST_INT, -2, -1, n, n + 1, Check.GREATEST_INT}) {
                Check.refused("ranked(" + rank + ") of " + n, Check.NO_ELEMENT, made, x -> x.ranked(rank));
            }
        }
    }

    private static void gapIsZero() {
        Check.sentence("Returns cells on the levels from 1 on that tell of no place that waits and do not tell the"
            + " place of the least value, and kept stretches that are none in the row, together; 0.");
        Check.same("when new", new DoubledRows().gap(), 0);
        for (int rule = 0; rule <= 2; rule++) {
            for (int place : new int[] {0, 1, 20, 38, 39}) {
                DoubledRows x = Check.rising(rule, 40);
                x.keep(0, 39);
                x.keep(place, 39);
                x.set(place, -9);
                Check.same("behind set(" + place + ", -9) by rule " + rule, x.gap(), 0);
                x.set(place, 99);
                Check.same("behind set(" + place + ", 99) by rule " + rule, x.gap(), 0);
                x.take(place);
                Check.same("behind take(" + place + ") by rule " + rule, x.gap(), 0);
                x.put(39, -99);
                Check.same("behind put(39, -99) by rule " + rule, x.gap(), 0);
                x.undo();
                Check.same("behind undo() by rule " + rule, x.gap(), 0);
                x.take(38);
                Check.same("behind take(38) by rule " + rule, x.gap(), 0);
            }
        }
    }

    private static void costWithoutQuestions() {
        Check.sentence("Returns looks and writes since the latest load, together, and questions, both converted to"
            + " float and divided; 0 without questions.");
        Check.same("when new", new DoubledRows().costOfOne(), (Object) 0f);
        DoubledRows x = Check.rising(1, 40);
        x.set(0, 5);
        Check.same("writes, but no question", x.costOfOne(), (Object) 0f);
        x.ask(0, 0);
        Check.same("one question", x.costOfOne(), (Object) (float) (143 + 5 + 1));
        x.undo();
        Check.same("none again", x.costOfOne(), (Object) 0f);
        DoubledRows one = Check.loaded("row 0 1:5;ask 0 0;");
        Check.same("a question in the text", one.costOfOne(), (Object) 1f);
        Check.load(one, "row 0 1:5;");
        Check.same("a load begins anew", one.costOfOne(), (Object) 0f);
    }

    private static void costAsFloat() {
        Check.sentence("both converted to float and divided;");
        DoubledRows x = Check.loaded("row 0 1:5 6;ask 0 0;ask 0 0;ask 0 0;");
        Check.same("4 by 3", x.costOfOne(), (Object) (4f / 3f));
        for (int questions = 4; questions <= 300; questions++) {
            x.ask(0, 0);
        }
        Check.same("301 by 300", x.costOfOne(), (Object) (301f / 300f));
        x.rule(1, 0);
        Check.same("302 by 300", x.costOfOne(), (Object) (302f / 300f));
    }
}
