/** Each promise of the document: ordinary inputs, the edges that it names, and wrong inputs. */
public final class PromisesTest {
    private PromisesTest() {
    }

    public static void main(String[] args) {
        constants();
        promise1NewObject();
        promise2Append();
        promise3Load();
        promise4ErrorOffset();
        promise5State();
        promise6Value();
        promise7Cell();
        promise8Waits();
        promise9Least();
        promise10Looks();
        promise11Writes();
        promise12Above();
        promise13LessBehind();
        promise14Rules();
        promise15Sum();
        promise16Kept();
        promise17LooksOfKept();
        promise18BestRule();
        promise19Ranked();
        promise20Gap();
        promise21CostOfOne();
        promise22Set();
        promise22SetByRule2();
        promise23Ask();
        promise24Keep();
        promise25Forget();
        promise26Sweep();
        promise27Put();
        promise28Take();
        promise29Rule();
        promise30Undo();
        promise30WhatUndoBringsBack();
        promise31Checksum();
        whatThrowsChangesNothing();
        Check.end();
    }

    private static void constants() {
        Check.same("SYNTAX_ERROR", DoubledRows.SYNTAX_ERROR, -2);
        Check.same("OUT_OF_RANGE", DoubledRows.OUT_OF_RANGE, -3);
        Check.same("TOO_MANY", DoubledRows.TOO_MANY, -4);
        Check.same("REFUSED", DoubledRows.REFUSED, -5);
    }

    private static void promise1NewObject() {
        DoubledRows x = new DoubledRows();
        Check.states("new", x, 1, 0, 2, 1, 0, 0, 0, 0, 0, 0, 1);
        Check.values("new", x, 0);
        Check.same("errorOffset() when new", x.errorOffset(), -1);
        Check.same("undo() when new", x.undo(), -1);
        Check.raises("load(1) when new", Check.ARGUMENT, () -> x.load(1));
        Check.same("as by the text", x.checksum(), Check.loaded("row 0 2:0;").checksum());
    }

    private static void promise2Append() {
        DoubledRows x = new DoubledRows();
        Check.same("append", x.append(0x726f7720, 0x30203220, 0x3a2d3120, 0x32203320, 0x343b2020), 20);
        Check.same("append's bytes", x.load(20), 4);
        Check.values("append's bytes", x, -1, 2, 3, 4);
        for (int bytes = 20; bytes <= 500; bytes += 20) {
            Check.same("append up to 500", x.append(0x20202020, 0x20202020, 0x20202020, 0x20202020, 0x20202020), bytes);
        }
        Check.same("append beyond 500", x.append(-1, -1, -1, -1, -1), -1);
        Check.same("append beyond 500 again", x.append(-1, -1, -1, -1, -1), -1);
        Check.same("500 spaces", x.load(500), -2);
        Check.same("errorOffset() of 500 spaces", x.errorOffset(), 500);
        Check.same("append behind a load", x.append(-1, 0, 0, 0, 0), 20);
        Check.same("a byte of 255", x.load(20), -2);
        Check.same("errorOffset() of a byte of 255", x.errorOffset(), 0);
    }

    private static void promise3Load() {
        DoubledRows x = new DoubledRows();
        Check.same("load", Check.load(x, "row 2 3:7 -7 0;keep 0 2;ask 1 2;set 1 5;put 0 9;take 3;"), 3);
        Check.values("load", x, 9, 7, 5);
        // 2 cells behind the values, 4 behind put, 2 behind take.
        Check.states("load", x, 3, 2, 3, 2, 2, 0, 1, 1, 2 + 4 + 2, 1, 3);
        Check.keptOnes("load", x, 102);
        Check.same("load empties the buffer", Check.answer(() -> x.load(0)), "-2");
        Check.fill(x, "row 0 1:1 2 3;");
        long before = x.checksum();
        Check.raises("load(-1)", Check.ARGUMENT, () -> x.load(-1));
        Check.raises("load(least)", Check.ARGUMENT, () -> x.load(Check.LEAST_INT));
        Check.raises("load(21)", Check.ARGUMENT, () -> x.load(21));
        Check.same("a load that throws leaves the data", x.checksum(), before);
        Check.same("a load that throws leaves the buffer", x.load(14), 3);
        Check.raises("load empties it behind length, too", Check.ARGUMENT, () -> x.load(1));
        before = x.checksum();
        Check.same("a text with an error", Check.load(x, "row 1 1:5 5;set 0 0;set 9 9;"), -3);
        Check.same("a text with an error leaves the data", x.checksum(), before);
        Check.raises("a text with an error empties the buffer", Check.ARGUMENT, () -> x.load(1));
        Check.same("a part of a text", loadPart(x, "row 0 1:1 2 3;set 0 9;", 14), 3);
        Check.same("a part of a text: value(0)", x.value(0), 1);
        Check.same("a prefix that ends early", loadPart(x, "row 0 1:1 2 3;", 13), -2);
        Check.same("40 values", Check.rising(0, 40).state(0), 40);
    }

    private static int loadPart(DoubledRows x, String text, int length) {
        Check.fill(x, text);
        return x.load(length);
    }

    private static void promise4ErrorOffset() {
        DoubledRows x = new DoubledRows();
        Check.load(x, "row 3 1:1;");
        Check.same("errorOffset() behind an error", x.errorOffset(), 4);
        Check.raises("load(1)", Check.ARGUMENT, () -> x.load(1));
        Check.same("errorOffset() behind a load that throws", x.errorOffset(), 4);
        x.undo();
        x.set(0, 1);
        Check.same("errorOffset() behind other calls", x.errorOffset(), 4);
        Check.load(x, "row 2 1:1;");
        Check.same("errorOffset() behind a good text", x.errorOffset(), -1);
        Check.load(x, "row 2 1;");
        x.undo();
        Check.same("errorOffset() behind undo", x.errorOffset(), 7);
        x.load(0);
        Check.same("errorOffset() of the empty text", x.errorOffset(), 0);
    }

    private static void promise5State() {
        int[] levels = {1, 2, 2, 3, 3, 3, 3, 4, 4, 4, 4, 4, 4, 4, 4, 5};
        for (int n = 1; n <= levels.length; n++) {
            Check.same("levels of " + n, Check.rising(0, n).state(3), levels[n - 1]);
        }
        Check.same("levels of 31", Check.rising(0, 31).state(3), 5);
        Check.same("levels of 32", Check.rising(0, 32).state(3), 6);
        Check.states("40 values", Check.rising(1, 40), 40, 1, 2, 6, 39 + 37 + 33 + 25 + 9, 0, 0, 0, 143, 0, 1);
        DoubledRows x = Check.loaded("row 0 7:3 1 2;keep 0 1;");
        x.set(0, 5);
        x.set(2, 5);
        Check.states("places that wait", x, 3, 0, 7, 2, 2, 2, 1, 0, 2, 0, 1);
        x.ask(0, 2);
        Check.states("behind a question", x, 3, 0, 7, 2, 2, 0, 1, 2, 4, 1, 2);
        Check.raises("state(-1)", Check.ARGUMENT, () -> x.state(-1));
        Check.raises("state(11)", Check.ARGUMENT, () -> x.state(11));
        Check.raises("state(greatest)", Check.ARGUMENT, () -> x.state(Check.GREATEST_INT));
        Check.load(x, "row 1 3:1 2;keep 0 1;ask 0 1;set 0 0;set 1 1;put 0 0;");
        Check.states("counted in a text", x, 3, 1, 3, 2, 2, 0, 1, 1, 1 + 1 + 1 + 2, 1, 2);
        Check.load(x, "row 0 1:1;");
        Check.states("counted since the latest load", x, 1, 0, 1, 1, 0, 0, 0, 0, 0, 0, 1);
    }

    private static void promise6Value() {
        DoubledRows x = Check.loaded("row 0 1:-999 999;");
        Check.values("value", x, -999, 999);
        Check.raises("value(-1)", Check.BOUNDS, () -> x.value(-1));
        Check.raises("value(2)", Check.BOUNDS, () -> x.value(2));
        Check.raises("value(least)", Check.BOUNDS, () -> x.value(Check.LEAST_INT));
    }

    private static void promise7Cell() {
        DoubledRows x = Check.loaded("row 0 8:4 4 6 1 1 9 1 0;");
        Check.cells("cell", x, 0, 0, 1, 2, 3, 4, 5, 6, 7);
        Check.cells("cell", x, 1, 0, 1, 3, 3, 4, 6, 7);
        Check.cells("cell", x, 2, 3, 3, 3, 3, 7);
        Check.cells("cell", x, 3, 7);
        Check.raises("cell(4, 0)", Check.NO_ELEMENT, () -> x.cell(4, 0));
        Check.raises("cell(-1, 0)", Check.NO_ELEMENT, () -> x.cell(-1, 0));
        Check.raises("cell(32, 0)", Check.NO_ELEMENT, () -> x.cell(32, 0));
        Check.raises("cell(33, 0)", Check.NO_ELEMENT, () -> x.cell(33, 0));
        Check.raises("cell(greatest, 0)", Check.NO_ELEMENT, () -> x.cell(Check.GREATEST_INT, 0));
        Check.raises("cell(least, 0)", Check.NO_ELEMENT, () -> x.cell(Check.LEAST_INT, 0));
        Check.raises("cell(0, 8)", Check.BOUNDS, () -> x.cell(0, 8));
        Check.raises("cell(-1, -1): the place first", Check.BOUNDS, () -> x.cell(-1, -1));
        x.set(7, 5);
        x.set(2, -5);
        Check.cells("as they were written last", x, 1, 0, 1, 3, 3, 4, 6, 7);
        x.ask(0, 0);
        Check.cells("written anew", x, 1, 0, 2, 2, 3, 4, 6, 6);
        Check.cells("written anew", x, 3, 2);
    }

    private static void promise8Waits() {
        DoubledRows x = Check.loaded("row 0 1:1 2 3;");
        x.set(1, 2);
        Check.same("waits(0)", x.waits(0), (Object) false);
        Check.same("waits(1), set to what it was", x.waits(1), (Object) true);
        Check.raises("waits(-1)", Check.BOUNDS, () -> x.waits(-1));
        Check.raises("waits(3)", Check.BOUNDS, () -> x.waits(3));
        x.ask(0, 0);
        Check.same("waits(1) behind a question", x.waits(1), (Object) false);
        DoubledRows long40 = Check.rising(2, 40);
        long40.set(39, 5);
        long40.set(32, 5);
        Check.same("waits(39)", long40.waits(39), (Object) true);
        Check.same("waits(7)", long40.waits(7), (Object) false);
        Check.same("waits(0)", long40.waits(0), (Object) false);
        DoubledRows atOnce = Check.loaded("row 1 1:1 2 3;set 0 9;");
        Check.same("waits(0) by rule 1", atOnce.waits(0), (Object) false);
    }

    private static void promise9Least() {
        DoubledRows x = Check.loaded("row 2 8:5 2 7 2 -1 -1;");
        Check.same("least(0, 3): the leftmost", x.least(0, 3), 1);
        Check.same("least(2, 3)", x.least(2, 3), 3);
        Check.same("least(0, 5)", x.least(0, 5), 4);
        Check.same("least(5, 5)", x.least(5, 5), 5);
        x.set(0, -9);
        Check.same("least(0, 5) with one that waits", x.least(0, 5), 0);
        x.set(0, 9);
        x.set(4, 9);
        x.set(5, 9);
        Check.same("least(0, 5) of values that wait", x.least(0, 5), 1);
        Check.same("no question is counted", x.state(9) + x.state(7), 0);
        wrongStretches("least", x::least, 6);
    }

    private interface OfStretch {
        int call(int from, int to);
    }

    private static void wrongStretches(String name, OfStretch method, int n) {
        Check.raises(name + "(-1, 0)", Check.BOUNDS, () -> method.call(-1, 0));
        Check.raises(name + "(0, n)", Check.BOUNDS, () -> method.call(0, n));
        Check.raises(name + "(n, n)", Check.BOUNDS, () -> method.call(n, n));
        Check.raises(name + "(n, 0): the places first", Check.BOUNDS, () -> method.call(n, 0));
        Check.raises(name + "(0, -1): the places first", Check.BOUNDS, () -> method.call(0, -1));
        Check.raises(name + "(least, greatest)", Check.BOUNDS, () -> method.call(Check.LEAST_INT, Check.GREATEST_INT));
        Check.raises(name + "(1, 0)", Check.ARGUMENT, () -> method.call(1, 0));
    }

    private static void promise10Looks() {
        DoubledRows x = Check.rising(2, 40);
        for (int n = 1; n <= 40; n++) {
            boolean oneLook = n == 1 || n == 2 || n == 4 || n == 8 || n == 16 || n == 32;
            Check.same("looks of " + n, x.looks(0, n - 1), oneLook ? 1 : 2);
        }
        x.rule(2, 8);
        x.set(5, 0);
        x.set(6, 0);
        x.set(39, 0);
        Check.same("looks(0, 39): 0-4, 5, 6, 7-38, 39", x.looks(0, 39), 2 + 1 + 1 + 1 + 1);
        Check.same("looks(5, 6)", x.looks(5, 6), 2);
        Check.same("looks(5, 5)", x.looks(5, 5), 1);
        Check.same("looks(2, 5)", x.looks(2, 5), 2 + 1);
        Check.same("nothing is built or counted", x.state(5) * 100 + x.state(7), 300);
        wrongStretches("looks", x::looks, 40);
        DoubledRows built = Check.loaded("row 0 1:1 2 3 4;set 1 0;");
        Check.same("looks(0, 3) behind what is built", built.looks(0, 3), 1);
        Check.same("it still waits", built.state(5), 1);
        DoubledRows atOnce = Check.loaded("row 1 1:1 2 3 4;set 1 0;");
        Check.same("looks(0, 3) by rule 1", atOnce.looks(0, 3), 1);
    }

    private static void promise11Writes() {
        DoubledRows x = Check.rising(0, 5);
        Check.same("writes() if none waits", x.writes(), 0);
        x.set(0, 0);
        Check.same("writes() if one waits", x.writes(), 4 + 2);
        x.set(1, 0);
        Check.same("writes() if two wait", x.writes(), 4 + 2);
        Check.same("nothing is written", x.state(8), 6);
        x.ask(0, 0);
        Check.same("writes() behind a question", x.writes(), 0);
        Check.same("writes() by rule 1", Check.loaded("row 1 8:1 2 3;set 0 0;").writes(), 0);
        Check.same("writes() by rule 2", Check.loaded("row 2 8:1 2 3;set 0 0;").writes(), 0);
        Check.same("writes() of one value", Check.loaded("row 0 8:1;set 0 0;").writes(), 0);
    }

    private static void promise12Above() {
        DoubledRows x = Check.rising(0, 9);
        int[] due = {3, 2 + 2 + 2, 2 + 3 + 2, 2 + 4 + 2, 2 + 4 + 2, 2 + 4 + 2, 2 + 3 + 2, 2 + 2 + 2, 3};
        for (int place = 0; place < due.length; place++) {
            Check.same("above(" + place + ") of 9", x.above(place), due[place]);
        }
        Check.same("above(20) of 40", Check.rising(0, 40).above(20), 2 + 4 + 8 + 16 + 9);
        Check.same("above(0) of 40", Check.rising(0, 40).above(0), 5);
        Check.same("above(0) of 1", new DoubledRows().above(0), 0);
        Check.raises("above(-1)", Check.BOUNDS, () -> x.above(-1));
        Check.raises("above(9)", Check.BOUNDS, () -> x.above(9));
    }

    private static void promise13LessBehind() {
        DoubledRows x = Check.loaded("row 2 8:5 5 7 4 4 9;");
        int[] due = {3, 3, 3, -1, -1, -1};
        for (int place = 0; place < due.length; place++) {
            Check.same("lessBehind(" + place + ")", x.lessBehind(place), due[place]);
        }
        x.set(5, -5);
        Check.same("lessBehind(4) with one that waits", x.lessBehind(4), 5);
        Check.raises("lessBehind(-1)", Check.BOUNDS, () -> x.lessBehind(-1));
        Check.raises("lessBehind(6)", Check.BOUNDS, () -> x.lessBehind(6));
    }

    private static void promise14Rules() {
        DoubledRows x = Check.loaded("row 0 8:4 2 2 5 1;");
        int[] due = {1, 2 * 3, 2, 1, 5};
        for (int place = 0; place < due.length; place++) {
            Check.same("rules(" + place + ")", x.rules(place), due[place]);
        }
        DoubledRows same = Check.loaded("row 0 8:3 3 3;");
        Check.same("rules(0) of equal ones", same.rules(0), 3);
        Check.same("rules(2) of equal ones", same.rules(2), 1);
        x.set(4, 9);
        Check.same("rules(4) with one that waits", x.rules(4), 1);
        Check.raises("rules(-1)", Check.BOUNDS, () -> x.rules(-1));
        Check.raises("rules(5)", Check.BOUNDS, () -> x.rules(5));
    }

    private static void promise15Sum() {
        DoubledRows x = Check.loaded("row 0 8:999 -999 3 4;");
        Check.same("sum(0, 3)", x.sum(0, 3), 7);
        Check.same("sum(1, 2)", x.sum(1, 2), -996);
        Check.same("sum(3, 3)", x.sum(3, 3), 4);
        x.set(3, 5);
        Check.same("sum(3, 3) of one that waits", x.sum(3, 3), 5);
        wrongStretches("sum", x::sum, 4);
    }

    private static void promise16Kept() {
        DoubledRows x = Check.rising(0, 40);
        Check.raises("kept(0) of none", Check.NO_ELEMENT, () -> x.kept(0));
        x.keep(39, 39);
        x.keep(0, 39);
        x.keep(0, 39);
        Check.keptOnes("kept", x, 3939, 39, 39);
        Check.raises("kept(-1)", Check.NO_ELEMENT, () -> x.kept(-1));
        Check.raises("kept(3)", Check.NO_ELEMENT, () -> x.kept(3));
    }

    private static void promise17LooksOfKept() {
        Check.same("looksOfKept() of none", new DoubledRows().looksOfKept(), 0);
        DoubledRows x = Check.loaded("row 2 8:1 2 3 4 5;keep 0 4;keep 0 3;keep 2 2;keep 0 4;");
        Check.same("looksOfKept()", x.looksOfKept(), 2 + 1 + 1 + 2);
        x.set(1, 0);
        Check.same("looksOfKept() with one that waits", x.looksOfKept(), 4 + 3 + 1 + 4);
        Check.same("nothing is asked", x.state(9) + x.state(7), 0);
        DoubledRows built = Check.loaded("row 0 8:1 2 3 4;keep 0 3;keep 0 2;set 1 0;");
        Check.same("looksOfKept() behind what is built", built.looksOfKept(), 1 + 2);
    }

    private static void promise18BestRule() {
        Check.same("bestRule(0) of one value", new DoubledRows().bestRule(0), 0);
        DoubledRows x = Check.loaded("row 1 8:1 2 3 4 5;");
        Check.same("bestRule(2) without kept stretches", x.bestRule(2), 0);
        // By rule 0 6 cells and 1 look, by rule 1 2 cells and 1 look, by rule 2 1 look.
        x.keep(4, 4);
        Check.same("bestRule(0): rule 2", x.bestRule(0), 2);
        Check.same("bestRule(4): rule 2", x.bestRule(4), 2);
        // By rules 0 and 1 2 cells and 2 looks each, by rule 2 3 looks each.
        DoubledRows tie = Check.loaded("row 0 8:1 2 3;keep 0 2;keep 0 2;");
        Check.same("bestRule(1): rules 0 and 1 cost the same, and rule 2 too", tie.bestRule(1), 0);
        // Of place 0, by rule 1 it is 1 cell and 4 looks, by rule 2 2 looks each.
        Check.same("bestRule(0): rule 2 is less", tie.bestRule(0), 2);
        tie.keep(0, 2);
        Check.same("bestRule(1): rule 2 is more", tie.bestRule(1), 0);
        // By rule 0 4 cells and 3 looks, by rule 1 2 cells and 3 looks, by rule 2 3 looks each.
        DoubledRows one = Check.loaded("row 0 8:1 2 3 4;keep 0 3;keep 0 3;keep 0 3;");
        Check.same("bestRule(0): rule 1", one.bestRule(0), 1);
        one.set(1, 7);
        one.rule(2, 1);
        Check.same("bestRule(0) if no place waited", one.bestRule(0), 1);
        Check.same("nothing is set or asked", one.state(5) * 1000 + one.state(9), 1000);
        Check.raises("bestRule(-1)", Check.BOUNDS, () -> one.bestRule(-1));
        Check.raises("bestRule(4)", Check.BOUNDS, () -> one.bestRule(4));
        // By rule 1 2 cells and 1 look, by rule 2 3 looks.
        one.forget(0);
        one.forget(0);
        Check.same("bestRule(0): rules 1 and 2 cost the same", one.bestRule(0), 1);
    }

    private static void promise19Ranked() {
        DoubledRows x = Check.loaded("row 2 8:5 -2 7 -2 5;");
        int[] due = {1, 3, 0, 4, 2};
        for (int rank = 0; rank < due.length; rank++) {
            Check.same("ranked(" + rank + ")", x.ranked(rank), due[rank]);
        }
        x.set(2, -9);
        Check.same("ranked(0) with one that waits", x.ranked(0), 2);
        Check.raises("ranked(-1)", Check.NO_ELEMENT, () -> x.ranked(-1));
        Check.raises("ranked(5)", Check.NO_ELEMENT, () -> x.ranked(5));
        Check.raises("ranked(greatest)", Check.NO_ELEMENT, () -> x.ranked(Check.GREATEST_INT));
    }

    private static void promise20Gap() {
        Check.same("gap() when new", new DoubledRows().gap(), 0);
        DoubledRows x = Check.loaded("row 2 8:5 4 3 2 1 0;keep 0 5;keep 5 5;");
        x.set(5, 9);
        x.set(0, -9);
        Check.same("gap() with places that wait", x.gap(), 0);
        x.take(5);
        Check.same("gap() behind take", x.gap(), 0);
        x.put(0, 3);
        x.rule(1, 1);
        x.set(3, -99);
        Check.same("gap() by rule 1", x.gap(), 0);
    }

    private static void promise21CostOfOne() {
        DoubledRows x = Check.rising(1, 3);
        Check.same("costOfOne() without questions", x.costOfOne(), (Object) 0f);
        x.ask(0, 2);
        Check.same("costOfOne() of 1", x.costOfOne(), (Object) 4f);
        x.ask(0, 0);
        x.ask(0, 0);
        Check.same("costOfOne() of 3", x.costOfOne(), (Object) 2f);
        x.ask(0, 0);
        x.ask(0, 0);
        x.ask(0, 0);
        x.ask(0, 0);
        Check.same("costOfOne() of 7", x.costOfOne(), (Object) (10f / 7f));
        x.load(0);
        Check.same("costOfOne() behind an error", x.costOfOne(), (Object) (10f / 7f));
        Check.load(x, "row 0 1:1;");
        Check.same("costOfOne() behind a load", x.costOfOne(), (Object) 0f);
    }

    private static void promise22Set() {
        DoubledRows x = Check.loaded("row 0 1:4 3 2 1;");
        Check.same("set(0, -999)", x.set(0, -999), 4);
        Check.same("set(0, 999)", x.set(0, 999), -999);
        Check.same("set(0, 999) again", x.set(0, 999), 999);
        Check.same("set(3, 5)", x.set(3, 5), 1);
        Check.states("set by rule 0", x, 4, 0, 1, 3, 4, 2, 0, 0, 4, 0, 1);
        Check.raises("set(4, 0)", Check.BOUNDS, () -> x.set(4, 0));
        Check.raises("set(-1, 0)", Check.BOUNDS, () -> x.set(-1, 0));
        Check.raises("set(4, 1000): the place first", Check.BOUNDS, () -> x.set(4, 1000));
        Check.raises("set(0, 1000)", Check.ARGUMENT, () -> x.set(0, 1000));
        Check.raises("set(0, -1000)", Check.ARGUMENT, () -> x.set(0, -1000));
        Check.raises("set(0, least)", Check.ARGUMENT, () -> x.set(0, Check.LEAST_INT));
        DoubledRows atOnce = Check.loaded("row 1 1:4 3 2 1 0;");
        Check.same("set(1, -4) by rule 1", atOnce.set(1, -4), 3);
        Check.states("set by rule 1", atOnce, 5, 1, 1, 3, 6, 0, 0, 0, 6 + 2 + 2, 0, 1);
        Check.cells("set by rule 1", atOnce, 1, 1, 1, 3, 4);
        Check.cells("set by rule 1", atOnce, 2, 1, 1);
        atOnce.set(1, -4);
        Check.same("set to what it is writes too", atOnce.state(8), 14);
    }

    private static void promise22SetByRule2() {
        DoubledRows x = Check.loaded("row 2 2:4 3 2 1 0;");
        x.set(1, -4);
        x.set(1, -5);
        x.set(2, -4);
        Check.states("most wait", x, 5, 2, 2, 3, 6, 2, 0, 0, 6, 0, 1);
        x.set(2, -4);
        Check.same("a place that waits waits once", x.state(5), 2);
        x.set(4, 7);
        Check.states("more than most wait", x, 5, 2, 2, 3, 6, 0, 0, 0, 12, 0, 2);
        Check.cells("built", x, 1, 1, 1, 2, 3);
        x.set(0, 0);
        x.set(1, 0);
        x.rule(2, 1);
        Check.same("setting most builds nothing", x.state(5), 2);
        x.set(1, 0);
        Check.same("built at the next set", x.state(5), 0);
        DoubledRows eight = Check.loaded("row 2 8:1 1 1 1 1 1 1 1 1;");
        for (int place = 0; place < 8; place++) {
            eight.set(place, 0);
        }
        Check.same("8 wait", eight.state(5), 8);
        eight.set(8, 0);
        Check.same("a 9th is too many", eight.state(5), 0);
    }

    private static void promise23Ask() {
        DoubledRows x = Check.loaded("row 0 1:4 3 2 1 1 2;");
        Check.same("ask(0, 5): the leftmost", x.ask(0, 5), 3);
        Check.states("ask", x, 6, 0, 1, 3, 8, 0, 0, 2, 8, 1, 1);
        x.set(3, 9);
        Check.same("ask(0, 5) behind set", x.ask(0, 5), 4);
        Check.states("ask builds first", x, 6, 0, 1, 3, 8, 0, 0, 4, 16, 2, 2);
        x.set(0, 0);
        Check.same("ask(5, 5), the one that waits not in it", x.ask(5, 5), 5);
        Check.states("ask builds all the same", x, 6, 0, 1, 3, 8, 0, 0, 5, 24, 3, 3);
        DoubledRows waiting = Check.loaded("row 2 8:4 3 2 1 1 2;");
        waiting.set(4, 0);
        waiting.set(2, 0);
        Check.same("ask by rule 2", waiting.ask(0, 5), 2);
        Check.states("ask by rule 2", waiting, 6, 2, 8, 3, 8, 2, 0, 1 + 1 + 1 + 1 + 1, 8, 1, 1);
        waiting.set(2, 5);
        waiting.set(4, 5);
        Check.same("ask does not tell the old ones", waiting.ask(0, 5), 3);
        waiting.set(0, -1);
        Check.same("ask(0, 1) by rule 2: its first place waits", waiting.ask(0, 1), 0);
        Check.same("ask(3, 4) by rule 2: its last place waits", waiting.ask(3, 4), 3);
        Check.same("ask(1, 3) by rule 2: a run on each side", waiting.ask(1, 3), 3);
        Check.same("ask(1, 2) by rule 2: the run ahead of it", waiting.ask(1, 2), 1);
        wrongStretches("ask", x::ask, 6);
        Check.same("ask that throws asks nothing", x.state(9), 3);
    }

    private static void promise24Keep() {
        DoubledRows x = Check.loaded("row 0 1:4 3;");
        for (int kept = 1; kept <= 8; kept++) {
            Check.same("keep", x.keep(kept % 2, 1), kept);
        }
        Check.keptOnes("keep", x, 101, 1, 101, 1, 101, 1, 101, 1);
        Check.raises("a 9th", Check.STATE, () -> x.keep(0, 0));
        wrongStretches("keep", x::keep, 2);
        Check.same("keep asks nothing", x.state(9) + x.state(7), 0);
    }

    private static void promise25Forget() {
        DoubledRows x = Check.loaded("row 0 1:4 3 2;keep 0 0;keep 1 1;keep 2 2;keep 0 2;");
        Check.same("forget(1)", x.forget(1), 3);
        Check.keptOnes("forget(1)", x, 0, 202, 2);
        Check.same("forget(2)", x.forget(2), 2);
        Check.same("forget(0)", x.forget(0), 1);
        Check.keptOnes("forget(0)", x, 202);
        Check.raises("forget(1) of 1", Check.NO_ELEMENT, () -> x.forget(1));
        Check.raises("forget(-1)", Check.NO_ELEMENT, () -> x.forget(-1));
        Check.same("forget(0)", x.forget(0), 0);
        Check.raises("forget(0) of none", Check.NO_ELEMENT, () -> x.forget(0));
    }

    private static void promise26Sweep() {
        DoubledRows x = Check.loaded("row 0 1:4 3 2 7;keep 0 0;keep 1 2;keep 0 1;keep 2 3;keep 3 3;");
        x.set(3, 9);
        Check.same("sweep(3)", x.sweep(3), 2);
        Check.keptOnes("sweep(3)", x, 0, 1, 303);
        Check.states("sweep(3)", x, 4, 0, 1, 3, 4, 0, 3, 5, 8, 5, 2);
        Check.same("sweep(3) again", x.sweep(3), 0);
        Check.same("sweep(1000)", x.sweep(1000), 3);
        x.set(0, 0);
        Check.same("sweep(-999) of none", x.sweep(-999), 0);
        Check.same("nothing is built without a question", x.state(5), 1);
        Check.raises("sweep(-1000)", Check.ARGUMENT, () -> x.sweep(-1000));
        Check.raises("sweep(1001)", Check.ARGUMENT, () -> x.sweep(1001));
        Check.raises("sweep(least)", Check.ARGUMENT, () -> x.sweep(Check.LEAST_INT));
    }

    private static void promise27Put() {
        DoubledRows x = Check.loaded("row 0 1:4 3 2;keep 0 1;keep 1 1;keep 1 2;keep 2 2;");
        x.set(0, 5);
        Check.same("put(1, 9)", x.put(1, 9), 4);
        Check.values("put(1, 9)", x, 5, 9, 3, 2);
        Check.keptOnes("put(1, 9)", x, 2, 202, 203, 303);
        Check.states("put(1, 9)", x, 4, 0, 1, 3, 4, 0, 4, 0, 2 + 4, 0, 2);
        Check.same("put(4, -999) at the end", x.put(4, -999), 5);
        Check.keptOnes("put(4, -999)", x, 2, 202, 203, 303);
        Check.same("put(0, 999)", x.put(0, 999), 6);
        Check.keptOnes("put(0, 999)", x, 103, 303, 304, 404);
        Check.values("put(0, 999)", x, 999, 5, 9, 3, 2, -999);
        Check.cells("put(0, 999)", x, 1, 1, 1, 3, 4, 5);
        Check.raises("put(7, 0)", Check.BOUNDS, () -> x.put(7, 0));
        Check.raises("put(-1, 0)", Check.BOUNDS, () -> x.put(-1, 0));
        Check.raises("put(7, 1000): the place first", Check.BOUNDS, () -> x.put(7, 1000));
        Check.raises("put(0, 1000)", Check.ARGUMENT, () -> x.put(0, 1000));
        Check.raises("put(0, -1000)", Check.ARGUMENT, () -> x.put(0, -1000));
        DoubledRows full = Check.rising(0, 39);
        Check.same("put a 40th", full.put(39, 0), 40);
        Check.raises("put a 41st", Check.STATE, () -> full.put(0, 0));
        Check.raises("put a 41st at the end", Check.STATE, () -> full.put(40, 0));
        Check.raises("put(41, 0)", Check.BOUNDS, () -> full.put(41, 0));
        Check.raises("put(40, 1000): the value first", Check.ARGUMENT, () -> full.put(40, 1000));
    }

    private static void promise28Take() {
        DoubledRows x = Check.loaded("row 2 8:4 3 2 1;keep 0 1;keep 1 1;keep 1 2;keep 2 3;keep 1 1;keep 0 0;");
        x.set(3, 6);
        Check.same("take(1)", x.take(1), 3);
        Check.values("take(1)", x, 4, 2, 6);
        Check.keptOnes("take(1)", x, 0, 101, 102, 0);
        Check.states("take(1)", x, 3, 2, 8, 2, 2, 0, 4, 0, 4 + 2, 0, 2);
        Check.same("take(2)", x.take(2), 6);
        Check.keptOnes("take(2)", x, 0, 101, 101, 0);
        Check.same("take(0)", x.take(0), 4);
        Check.keptOnes("take(0)", x, 0, 0);
        Check.raises("take of the only one", Check.STATE, () -> x.take(0));
        Check.raises("take(1) of 1", Check.BOUNDS, () -> x.take(1));
        Check.raises("take(-1)", Check.BOUNDS, () -> x.take(-1));
    }

    private static void promise29Rule() {
        DoubledRows x = Check.loaded("row 0 3:4 3 2;");
        x.set(0, 0);
        Check.same("rule(2, 8)", x.rule(2, 8), 3);
        Check.same("rule(2, 1)", x.rule(2, 1), 8);
        Check.states("most alone does nothing else", x, 3, 0, 1, 2, 2, 1, 0, 0, 2, 0, 1);
        Check.same("rule(1, 0)", x.rule(1, 0), 0);
        Check.states("the rule set to what it is builds", x, 3, 0, 1, 2, 2, 0, 0, 0, 4, 0, 2);
        Check.same("rule(1, 2)", x.rule(1, 2), 0);
        Check.same("rule(1, 1)", x.rule(1, 1), 2);
        Check.states("the rule set", x, 3, 1, 1, 2, 2, 0, 0, 0, 8, 0, 4);
        int[][] wrong = {{0, 1}, {3, 1}, {-1, 1}, {1, -1}, {1, 3}, {2, 0}, {2, 9}, {Check.LEAST_INT, 1},
            {2, Check.GREATEST_INT}};
        for (int[] w : wrong) {
            Check.raises("rule(" + w[0] + ", " + w[1] + ")", Check.ARGUMENT, () -> x.rule(w[0], w[1]));
        }
        Check.same("a rule that throws changes nothing", x.state(10), 4);
    }

    private static void promise30Undo() {
        DoubledRows x = new DoubledRows();
        for (int value = 1; value <= 10; value++) {
            x.set(0, value);
        }
        for (int left = 7; left >= 0; left--) {
            Check.same("undo()", x.undo(), left);
            Check.same("undo(): value(0)", x.value(0), left + 2);
        }
        Check.same("undo() of a final one", x.undo(), -1);
        Check.same("undo() of a final one: value(0)", x.value(0), 2);
        for (int value = 11; value <= 18; value++) {
            x.set(0, value);
        }
        x.undo();
        x.undo();
        x.set(0, 50);
        Check.same("undone ones make none final", x.undo(), 6);
        for (int left = 5; left >= 0; left--) {
            Check.same("undo() of the earlier ones", x.undo(), left);
        }
        Check.same("undo() of the earlier ones: value(0)", x.value(0), 2);
        Check.same("undo() of none", x.undo(), -1);
    }

    private static void promise30WhatUndoBringsBack() {
        DoubledRows x = Check.loaded("row 2 3:4 3 2 1;keep 0 3;keep 1 2;set 1 0;ask 0 3;");
        Check.same("undo() of load", x.undo(), 0);
        Check.states("undo() of load", x, 1, 0, 2, 1, 0, 0, 0, 0, 0, 0, 1);
        Check.load(x, "row 2 3:4 3 2 1;keep 0 3;keep 1 2;set 1 0;ask 0 3;");
        eachChangeIsUndoneAlone(x);
        long[] sums = new long[8];
        Runnable[] changes = {() -> x.ask(0, 0), () -> x.keep(0, 0), () -> x.forget(0), () -> x.sweep(-999),
            () -> x.put(0, 0), () -> x.take(0), () -> x.rule(1, 0), () -> Check.load(x, "row 0 1:1;")};
        for (int k = 0; k < changes.length; k++) {
            sums[k] = x.checksum();
            changes[k].run();
        }
        Check.load(x, "row 0 1:1; ");
        Check.load(x, "row 0 1:1;x");
        Check.fill(x, "row 0 1:7 7;");
        Check.same("undo() of the second load", x.undo(), 7);
        for (int k = changes.length - 1; k > 0; k--) {
            Check.same("undo() of change " + k, x.undo(), k - 1);
            Check.same("checksum() ahead of change " + k, x.checksum(), sums[k]);
        }
        Check.same("the error offset stays", x.errorOffset(), 10);
        Check.same("the input buffer stays", x.load(12), 2);
    }

    private static void eachChangeIsUndoneAlone(DoubledRows x) {
        Runnable[] changes = {() -> x.set(0, 4), () -> x.ask(0, 0), () -> x.keep(0, 0), () -> x.forget(1),
            () -> x.sweep(-999), () -> x.put(4, 0), () -> x.take(0), () -> x.rule(1, 0), () -> x.rule(2, 3)};
        long before = x.checksum();
        for (int k = 0; k < changes.length; k++) {
            changes[k].run();
            Check.same("undo() of change " + k + " alone", x.undo(), 1);
            Check.same("checksum() behind undo of change " + k + " alone", x.checksum(), before);
        }
    }

    private static void promise31Checksum() {
        DoubledRows x = Check.loaded("row 2 8:5 -3;keep 0 1;set 0 -9;ask 0 0;");
        int[] numbers = {2, 2, 8, 2, 1, 1, 1, 1, 1, 1, 1, -9, 1, -3, 0, 1, 1};
        long due = 0;
        for (int n : numbers) {
            due = 31 * due + n;
        }
        Check.same("checksum()", x.checksum(), due);
        DoubledRows y = Check.loaded("row 0 1:3 2 1 0;keep 2 3;");
        int[] more = {4, 0, 1, 3, 4, 0, 1, 0, 4, 0, 1, 3, 0, 2, 0, 1, 0, 0, 0, 1, 2, 3, 3, 203};
        due = 0;
        for (int n : more) {
            due = 31 * due + n;
        }
        Check.same("checksum() with two levels", y.checksum(), due);
    }

    private static void whatThrowsChangesNothing() {
        DoubledRows x = Check.loaded("row 2 3:4 3 2 1;keep 0 3;set 1 0;");
        x.undo();
        Check.load(x, "row 2 3:4 3 2 1;keep 0 3;set 1 0;");
        long before = x.checksum();
        Runnable[] wrong = {() -> x.set(4, 0), () -> x.set(0, 1000), () -> x.ask(2, 1), () -> x.ask(0, 4),
            () -> x.keep(2, 1), () -> x.forget(1), () -> x.sweep(1001), () -> x.put(5, 0), () -> x.put(0, 1000),
            () -> x.take(4), () -> x.rule(1, 3), () -> x.load(999)};
        for (Runnable call : wrong) {
            Check.same("a call that throws", Check.answer(() -> {
                call.run();
                return 0;
            }).startsWith("throws."), (Object) true);
        }
        Check.same("checksum() behind calls that throw", x.checksum(), before);
        Check.same("calls that throw are no changes", x.undo(), 0);
    }
}
