/** The grammar of the setup text, its errors, and which of several errors counts. */
public final class SetupTextTest {
    private static final int SYNTAX = DoubledRows.SYNTAX_ERROR;
    private static final int RANGE = DoubledRows.OUT_OF_RANGE;
    private static final int MANY = DoubledRows.TOO_MANY;
    private static final int REFUSED = DoubledRows.REFUSED;

    private SetupTextTest() {
    }

    public static void main(String[] args) {
        goodTexts();
        syntaxOfTheRow();
        syntaxOfStatements();
        endsTooEarly();
        rangesOfTheRow();
        rangesOfStatements();
        tooManyValues();
        tooManyByPut();
        tooManyKept();
        refused();
        statementsCarriedOut();
        Check.end();
    }

    private static void good(String text, int due) {
        DoubledRows x = new DoubledRows();
        Check.same("load of " + text, Check.load(x, text), due);
        Check.same("errorOffset() of " + text, x.errorOffset(), -1);
    }

    private static void bad(String text, int code, int offset) {
        DoubledRows x = new DoubledRows();
        Check.same("load of " + text, Check.load(x, text), code);
        Check.same("errorOffset() of " + text, x.errorOffset(), offset);
        Check.same("undo() behind " + text, x.undo(), -1);
    }

    private static String many(int count) {
        return "7 ".repeat(count);
    }

    private static void goodTexts() {
        good("row 0 1:0;", 1);
        good("row2 8:0;", 1);
        good("  row  1  4  :  -  5  6  ;  ", 2);
        good("row0 1:-5-6-7 8;set0-5;ask0 1;keep1 1;put4-0;take0;", 4);
        good("row 0000000000000000000000002 000008:0000000000000999 -00000000000999 -0 00;", 4);
        good("row 0 1:1;put 1 2;put 0 3 ; set 2 -999 ;", 3);
        good("row 0 1:" + many(40) + ";", 40);
        good("row 0 1:" + many(40) + ";take 0;put 39 1;take 39;put 0 1;", 40);
        DoubledRows x = Check.loaded("row 0 1:0007-0010 - 3;");
        Check.same("leading zeros", x.value(0), 7);
        Check.same("a sign without spaces", x.value(1), -10);
        Check.same("a sign with spaces", x.value(2), -3);
    }

    private static void syntaxOfTheRow() {
        bad("", SYNTAX, 0);
        bad("   ", SYNTAX, 3);
        bad("rows 0 1:1;", SYNTAX, 0);
        bad("rowa 0 1:1;", SYNTAX, 0);
        bad("rowz 0 1:1;", SYNTAX, 0);
        bad("ro 0 1:1;", SYNTAX, 0);
        bad("Row 0 1:1;", SYNTAX, 0);
        bad(" set 0 1;", SYNTAX, 1);
        bad("row : 1:1;", SYNTAX, 4);
        bad("row -1 1:1;", SYNTAX, 4);
        bad("row 1 x:1;", SYNTAX, 6);
        bad("row 1 2 3:1;", SYNTAX, 8);
        bad("row 1 2;1;", SYNTAX, 7);
        bad("row 1 2:;", SYNTAX, 8);
        bad("row 1 2:--1;", SYNTAX, 9);
        bad("row 1 2:1 -;", SYNTAX, 11);
        bad("row 1 2:1:2;", SYNTAX, 9);
        bad("row 1 2:1,2;", SYNTAX, 9);
        bad("row 1 2:1\t2;", SYNTAX, 9);
        bad("row 1 2:1\n;", SYNTAX, 9);
        bad("row\0001 2:1;", SYNTAX, 3);
        bad("row 1 2:1 set 0 1;", SYNTAX, 10);
        bad("row 1 2:1;\u00e9", SYNTAX, 10);
        bad("row 1 2:1;;", SYNTAX, 10);
        bad("row 1 2:1;row 1 2:1;", SYNTAX, 10);
        bad("row 1 2:+1;", SYNTAX, 8);
    }

    private static void syntaxOfStatements() {
        String row = "row 1 2:1 2;";
        bad(row + "sets 0 1;", SYNTAX, 12);
        bad(row + "se 0 1;", SYNTAX, 12);
        bad(row + "keepa 0 1;", SYNTAX, 12);
        bad(row + "askz 0 1;", SYNTAX, 12);
        bad(row + "setask 0 1;", SYNTAX, 12);
        bad(row + "7;", SYNTAX, 12);
        bad(row + "put 0 1;takes 0;", SYNTAX, 20);
        bad(row + "set;", SYNTAX, 15);
        bad(row + "set -1 1;", SYNTAX, 16);
        bad(row + "set 0;", SYNTAX, 17);
        bad(row + "set 0 x;", SYNTAX, 18);
        bad(row + "set 0 - -1;", SYNTAX, 20);
        bad(row + "set 0 1 2;", SYNTAX, 20);
        bad(row + "ask 0 -1;", SYNTAX, 18);
        bad(row + "ask 0;", SYNTAX, 17);
        bad(row + "keep 0 -1;", SYNTAX, 19);
        bad(row + "put -0 1;", SYNTAX, 16);
        bad(row + "take 0 1;", SYNTAX, 19);
        bad(row + "take;", SYNTAX, 16);
        bad(row + "take 0 take 0;", SYNTAX, 19);
        bad(row + "ask 0 1:", SYNTAX, 19);
        bad(row + "keep 0 1 keep", SYNTAX, 21);
    }

    private static void endsTooEarly() {
        String text = "row 2 2:1 -2;set 0 -1;ask 0 1;keep 0 1;put 2 -3;take 0;";
        for (int length = 0; length < text.length(); length++) {
            boolean isWhole = length > 0 && text.charAt(length - 1) == ';';
            DoubledRows x = new DoubledRows();
            Check.fill(x, text);
            int answer = x.load(length);
            if (isWhole) {
                Check.same("load(" + length + ") is no error", Math.min(answer, 0), 0);
            } else {
                // A word that is cut off is wrong at its first byte, all else at the end of the text.
                int end = length;
                while (end > 0 && Character.isLetter(text.charAt(end - 1))) {
                    end--;
                }
                String cut = text.substring(end, length);
                boolean isWord = cut.matches("row|set|ask|keep|put|take");
                Check.same("load(" + length + ")", answer, SYNTAX);
                Check.same("errorOffset() of load(" + length + ")", x.errorOffset(), isWord ? length : end);
            }
        }
        bad("row 1 1:1   ", SYNTAX, 12);
        bad("row 1 1:1;take  ", SYNTAX, 16);
        bad("row 1 1:1;set 0 -", SYNTAX, 17);
    }

    private static void rangesOfTheRow() {
        bad("row 3 1:1;", RANGE, 4);
        bad("row 0003 1:1;", RANGE, 4);
        bad("row 4294967296 1:1;", RANGE, 4);
        bad("row 18446744073709551617 1:1;", RANGE, 4);
        bad("row 0 0:1;", RANGE, 6);
        bad("row 0 00:1;", RANGE, 6);
        bad("row 0 9:1;", RANGE, 6);
        bad("row 0 1:1000;", RANGE, 8);
        bad("row 0 1:- 1000;", RANGE, 10);
        bad("row 0 1:4294967297;", RANGE, 8);
        bad("row 0 1:5 0001000 x", RANGE, 10);
        bad("row 9 x", RANGE, 4);
        bad("row x 9", SYNTAX, 4);
    }

    private static void rangesOfStatements() {
        String row = "row 0 1:1 2;";
        bad(row + "set 2 0;", RANGE, 16);
        bad(row + "set 0 1000;", RANGE, 18);
        bad(row + "set 0 -1000;", RANGE, 19);
        bad(row + "set 2 x", RANGE, 16);
        bad(row + "ask 2 2;", RANGE, 16);
        bad(row + "ask 0 2;", RANGE, 18);
        bad(row + "ask 1 0;", RANGE, 18);
        bad(row + "keep 2 2;", RANGE, 17);
        bad(row + "keep 0 2;", RANGE, 19);
        bad(row + "keep 1 0;", RANGE, 19);
        bad(row + "put 3 0;", RANGE, 16);
        bad(row + "put 2 -1000;", RANGE, 19);
        bad(row + "take 2;", RANGE, 17);
        bad(row + "take 1;set 1 0;", RANGE, 23);
        bad(row + "put 2 0;put 4 0;", RANGE, 24);
        bad(row + "take 99999999999999999999;", RANGE, 17);
    }

    private static void tooManyValues() {
        String row = "row 0 1:" + many(40);
        bad(row + "7;", MANY, 88);
        bad(row + " -7;", MANY, 89);
        bad(row + "999", MANY, 88);
        bad(row + "1000;", RANGE, 88);
        bad(row + "-1000;", MANY, 88);
        bad(row + "-;", MANY, 88);
        bad(row + "x;", SYNTAX, 88);
        bad(row, SYNTAX, 88);
    }

    private static void tooManyByPut() {
        String row = "row 0 1:" + many(40) + ";";
        bad(row + "put 40 1;", MANY, 93);
        bad(row + "put 0 1000;", MANY, 93);
        bad(row + "put 0 x", MANY, 93);
        bad(row + "put 41 1;", RANGE, 93);
        bad(row + "put x", SYNTAX, 93);
        bad("row 0 1:" + many(39) + ";put 0 1;put 00 1;", MANY, 99);
    }

    private static void tooManyKept() {
        String row = "row 0 1:1 2 3;" + "keep 0 1;".repeat(8);
        bad(row + "keep 0 0;", MANY, 91);
        bad(row + "keep 2 1;", MANY, 91);
        bad(row + "keep 3 3;", RANGE, 91);
        bad(row + "keep ;", SYNTAX, 91);
        good(row, 3);
        good("row 0 1:1 2 3;keep 2 2;" + "keep 0 1;".repeat(7) + "take 2;keep 0 0;", 2);
        bad("row 0 1:1 2 3;keep 2 2;" + "keep 0 1;".repeat(7) + "take 2;keep 0 0;keep 0 0;", MANY, 107);
    }

    private static void refused() {
        bad("row 0 1:1;take 0;", REFUSED, 15);
        bad("row 0 1:1;take  00 x", REFUSED, 16);
        bad("row 0 1:1;take 1;", RANGE, 15);
        bad("row 0 1:1;take ;", SYNTAX, 15);
        bad("row 0 1:1 2;take 0;take 0;", REFUSED, 24);
        good("row 0 1:1 2;take 0;put 0 1;take 1;", 1);
    }

    private static void statementsCarriedOut() {
        String[] texts = {"row 0 1:", "row 1 1:", "row 2 1:", "row 2 8:"};
        for (String text : texts) {
            DoubledRows read = Check.loaded(text + "5 4 3 2 1;set 1 -9;ask 0 3;keep 1 3;set 0 1;set 2 2;put 2 7;"
                + "ask 1 4;set 5 5;take 0;set 3 3;ask 0 4;set 1 1;set 1 2;");
            DoubledRows called = Check.loaded(text + "5 4 3 2 1;");
            called.set(1, -9);
            called.ask(0, 3);
            called.keep(1, 3);
            called.set(0, 1);
            called.set(2, 2);
            called.put(2, 7);
            called.ask(1, 4);
            called.set(5, 5);
            called.take(0);
            called.set(3, 3);
            called.ask(0, 4);
            called.set(1, 1);
            called.set(1, 2);
            Check.same("statements of " + text, read.checksum(), called.checksum());
        }
    }
}
