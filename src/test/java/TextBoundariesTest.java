import java.util.ArrayList;
import java.util.List;
import java.util.regex.Matcher;
import java.util.regex.Pattern;

/**
 * Each sentence in the part 'Setup text' of 'Terms', one test each: at the boundary that it names, and next to it on
 * either side.
 */
public final class TextBoundariesTest {
    private static final int SYNTAX = DoubledRows.SYNTAX_ERROR;
    private static final int RANGE = DoubledRows.OUT_OF_RANGE;
    private static final int MANY = DoubledRows.TOO_MANY;
    private static final int REFUSED = DoubledRows.REFUSED;

    private TextBoundariesTest() {
    }

    public static void main(String[] args) {
        bytesOfTheBuffer();
        statementsInTheBuffer();
        grammarOfSetup();
        grammarOfStatements();
        grammarOfValues();
        numbersOfAnyLength();
        leadingZeros();
        digitsAndLetters();
        longestRuns();
        spacesAheadOfTokens();
        spacesBetweenNumbers();
        noOtherByteSeparates();
        signsAreTokens();
        numbersOfRow();
        whatIsBuiltBehindTheValues();
        placesOfStatements();
        placesBehindPutAndTake();
        smallestOffset();
        firstInTheListCounts();
        tokensThatAreNotAllowed();
        endOfTheText();
        rangeOfAValue();
        rangeOfAStretch();
        rangeIsToldAtTheFirstDigit();
        fortyFirstValue();
        fortyFirstValueByPut();
        ninthStretch();
        takeOfTheOnlyValue();
        Check.end();
    }

    private static void good(String text, int due) {
        DoubledRows x = new DoubledRows();
        Check.same("load of " + text, Check.load(x, text), due);
        Check.same("errorOffset() of " + text, x.errorOffset(), -1);
        Check.same("undo() behind " + text, x.undo(), 0);
    }

    /** The text has this error; all else stays as it was, but for the buffer, which is empty. */
    private static void bad(String text, int code, int offset) {
        DoubledRows x = Check.loaded("row 2 3:6 5 4;keep 0 2;set 1 -6;");
        long before = x.checksum();
        Check.same("load of " + text, Check.load(x, text), code);
        Check.same("errorOffset() of " + text, x.errorOffset(), offset);
        Check.same("checksum() behind " + text, x.checksum(), before);
        Check.raises("load(1) behind " + text, Check.ARGUMENT, () -> x.load(1));
        Check.same("undo() behind " + text, x.undo(), 0);
    }

    private static String sevens(int count) {
        return "7 ".repeat(count);
    }

    private static void bytesOfTheBuffer() {
        Check.sentence("The setup text is read from an input buffer of at most 500 bytes.");
        for (int length = 498; length <= 500; length++) {
            String text = "row 0 1:5" + " ".repeat(length - 10) + ";";
            good(text, 1);
            bad(text.substring(0, length - 1) + "!", SYNTAX, length - 1);
            bad(text.substring(0, length - 1) + " ", SYNTAX, length);
        }
        String text501 = "row 0 1:5" + " ".repeat(491) + ";";
        DoubledRows x = new DoubledRows();
        Check.fill(x, text501);
        Check.raises("load(501)", Check.ARGUMENT, () -> x.load(501));
        Check.same("load(500) of what fits in", x.load(500), SYNTAX);
        Check.same("errorOffset() of what fits in", x.errorOffset(), 500);
    }

    private static void statementsInTheBuffer() {
        Check.sentence("The setup text is read from an input buffer of at most 500 bytes.");
        String row = "row0 1:5;";
        int fit = (500 - row.length()) / 7;
        DoubledRows x = Check.loaded(row + "ask0 0;".repeat(fit));
        Check.same("questions of a full buffer", x.state(9), fit);
        Check.same("looks of a full buffer", x.state(7), fit);
        bad(row + "ask0 0;".repeat(fit - 1) + "ask0 1;", RANGE, row.length() + 7 * (fit - 1) + 5);
        bad(row + "ask0 0;".repeat(fit - 1) + "ask0 0", SYNTAX, row.length() + 7 * fit - 1);
    }

    /** The grammar over the first letters of the tokens, for "." stands where a token is none of the grammar. */
    private static final Pattern GRAMMAR = Pattern.compile("r11:(-?1)+;((s1-?1|a11|k11|p1-?1|t1);)*");
    private static final String LETTERS = "r1:-;sakpt.";
    private static final String[] WORDS = {"row", "1", ":", "-", ";", "set", "ask", "keep", "put", "take", "!"};

    /**
     * A text of these tokens is right if they follow the grammar; otherwise it is wrong at the first token with which
     * no text can begin any more, or at its end. All numbers are 1, and there are enough values: no number is out of
     * its range.
     */
    private static void followsGrammar(String letters) {
        StringBuilder text = new StringBuilder();
        int wrongAt = -1;
        for (int k = 0; k < letters.length(); k++) {
            text.append(text.length() == 0 ? "" : " ");
            if (wrongAt < 0 && !canBegin(letters.substring(0, k + 1))) {
                wrongAt = text.length();
            }
            text.append(WORDS[LETTERS.indexOf(letters.charAt(k))]);
        }
        if (GRAMMAR.matcher(letters).matches()) {
            DoubledRows x = new DoubledRows();
            Check.same("load of " + text + " is right", Check.load(x, text.toString()) > 0, (Object) true);
            Check.same("errorOffset() of " + text, x.errorOffset(), -1);
        } else {
            bad(text.toString(), SYNTAX, wrongAt < 0 ? text.length() : wrongAt);
        }
    }

    private static boolean canBegin(String letters) {
        Matcher m = GRAMMAR.matcher(letters);
        return m.matches() || m.hitEnd();
    }

    /** The tokens as they are, and with each one left out, replaced by each other one, or with one put in. */
    private static List<String> changedByOne(String letters) {
        List<String> all = new ArrayList<>(List.of(letters));
        for (int at = 0; at <= letters.length(); at++) {
            String start = letters.substring(0, at);
            String rest = letters.substring(at);
            all.add(start);
            for (char other : LETTERS.toCharArray()) {
                all.add(start + other + rest);
                if (at < letters.length()) {
                    all.add(start + other + rest.substring(1));
                }
            }
            if (at < letters.length()) {
                all.add(start + rest.substring(1));
            }
        }
        return all;
    }

    private static void grammarOfSetup() {
        Check.sentence("Its grammar is: ```text setup = \"row\" number number \":\" value { value } \";\" { statement"
            + " \";\" }");
        for (String letters : changedByOne("r11:1111;")) {
            followsGrammar(letters);
        }
        good("row 1 1:1;", 1);
        good("row 1 1:1 1;", 2);
        bad("row 1 1:;", SYNTAX, 8);
        good("row 1 1:1 1;ask 1 1;", 2);
        good("row 1 1:1 1;ask 1 1;ask 1 1;", 2);
        bad("row 1 1:1 1;;", SYNTAX, 12);
        bad("row 1 1:1 1;ask 1 1", SYNTAX, 19);
    }

    private static void grammarOfStatements() {
        Check.sentence("statement = \"set\" number value | \"ask\" number number | \"keep\" number number | \"put\""
            + " number value | \"take\" number");
        String row = "r11:1111;";
        for (String letters : changedByOne("s11;a11;k11;p11;t1;s1-1;p1-1;")) {
            followsGrammar(row + letters);
        }
        for (String once : changedByOne("s11;p1-1;t1;")) {
            for (String twice : changedByOne(once)) {
                followsGrammar(row + twice);
            }
        }
        for (String once : changedByOne("a11;k11;")) {
            for (String twice : changedByOne(once)) {
                followsGrammar(row + twice);
            }
        }
    }

    private static void grammarOfValues() {
        Check.sentence("value = [ \"-\" ] number");
        for (String letters : changedByOne("r11:-11-11;s1-1;p1-1;s11;p11;")) {
            followsGrammar(letters);
        }
        Check.values("with and without a sign", Check.loaded("row 0 1:5 -5 5-5;set 0 -6;put 4 -7;put 5 7;"), -6, -5, 5,
            -5, -7, 7);
    }

    private static void numbersOfAnyLength() {
        Check.sentence("A number is a run of decimal digits, of any length (leading zeros do not matter);");
        good("row 0 1:" + "0".repeat(490) + "5;", 1);
        Check.same("491 digits", Check.loaded("row 0 1:" + "0".repeat(488) + "999;").value(0), 999);
        bad("row 0 1:" + "0".repeat(487) + "1000;", RANGE, 8);
        bad("row 0 1:" + "9".repeat(491) + ";", RANGE, 8);
        bad("row 0 1:1" + "0".repeat(490) + ";", RANGE, 8);
        String[] wrapped = {"2147483647", "2147483648", "2147483653", "4294967295", "4294967296", "4294967301",
            "9223372036854775807", "9223372036854775808", "18446744073709551616", "18446744073709551621",
            "340282366920938463463374607431768211461"};
        for (String number : wrapped) {
            bad("row 0 1:" + number + ";", RANGE, 8);
            bad("row 0 1:-" + number + ";", RANGE, 9);
            bad("row " + number + " 1:5;", RANGE, 4);
            bad("row 0 " + number + ":5;", RANGE, 6);
            bad("row 0 1:5 6 7 8 9 5;set " + number + " 1;", RANGE, 24);
            bad("row 0 1:5 6 7 8 9 5;ask 0 " + number + ";", RANGE, 26);
        }
    }

    private static void leadingZeros() {
        Check.sentence("A number is a run of decimal digits, of any length (leading zeros do not matter);");
        good("row 00 01:00;", 1);
        good("row 0000000002 000000008:0000000999 -0000000999;put 00002 000;take 0000000000002;", 2);
        bad("row 0003 1:1;", RANGE, 4);
        bad("row 0 00:1;", RANGE, 6);
        bad("row 0 09:1;", RANGE, 6);
        bad("row 0 1:01000;", RANGE, 8);
        bad("row 0 1:1 2;take 02;", RANGE, 17);
        Check.same("-000 is 0", Check.loaded("row 0 1:-000;").value(0), 0);
        Check.same("0100 is no number of base 8", Check.loaded("row 0 1:0100;").value(0), 100);
        Check.same("008 neither", Check.loaded("row 0 1:008;").value(0), 8);
    }

    private static void digitsAndLetters() {
        Check.sentence("A number is a run of decimal digits, of any length (leading zeros do not matter); a word is a"
            + " run of the letters a to z.");
        for (int b = 0; b < 256; b++) {
            char sign = (char) b;
            boolean isDigit = "0123456789".indexOf(sign) >= 0;
            boolean isLetter = "abcdefghijklmnopqrstuvwxyz".indexOf(sign) >= 0;
            boolean isSpace = sign == ' ';
            String value = "row 0 1:" + sign + ";";
            String digit = "row 0 1:5" + sign + ";";
            String word = "row" + sign + "0 1:5;";
            if (isDigit) {
                Check.same("byte " + b + " as a digit", Check.loaded(value).value(0), b - '0');
                Check.same("byte " + b + " behind a digit", Check.loaded(digit).value(0), 50 + b - '0');
            } else {
                // Behind "-" and a space the ";" is wrong.
                bad(value, SYNTAX, sign == '-' || isSpace ? 9 : 8);
                if (isSpace) {
                    good(digit, 1);
                } else if (sign == ';') {
                    bad(digit, SYNTAX, 10);
                } else {
                    bad(digit, SYNTAX, sign == '-' ? 10 : 9);
                }
            }
            if (isSpace || sign == '0') {
                good(word, 1);
            } else if (isDigit) {
                bad(word, RANGE, 3);
            } else {
                // A letter makes the word another one.
                bad(word, SYNTAX, isLetter ? 0 : 3);
            }
        }
    }

    /** A word with any other letter at one place of it. */
    private static void otherLetters(String ahead, String word, String behind) {
        for (int at = 0; at < word.length(); at++) {
            for (char letter : new char[] {'a', (char) (word.charAt(at) + 1), 'z', 'S', '_'}) {
                if (letter != word.charAt(at)) {
                    String other = word.substring(0, at) + letter + word.substring(at + 1);
                    bad(ahead + other + behind, SYNTAX, ahead.length());
                }
            }
        }
    }

    private static void longestRuns() {
        Check.sentence("Each run is as long as possible.");
        Check.same("12 is one number", Check.loaded("row 0 1:12;").state(0), 1);
        Check.same("1 2 are two", Check.loaded("row 0 1:1 2;").state(0), 2);
        Check.same("a number ends at a sign", Check.loaded("row0 1:1-2-3;").state(0), 3);
        good("row0 1:1;set0 1;", 1);
        bad("rowset 0 1:1;", SYNTAX, 0);
        otherLetters("", "row", " 0 1:1;");
        for (String word : new String[] {"set", "ask", "keep", "put", "take"}) {
            bad("row 0 1:1 2;" + word + "a 0 0;", SYNTAX, 12);
            bad("row 0 1:1 2;" + word + word + " 0 0;", SYNTAX, 12);
            bad("row 0 1:1 2;" + word.substring(0, word.length() - 1) + " 0 0;", SYNTAX, 12);
            bad("row 0 1:1 2;a" + word + " 0 0;", SYNTAX, 12);
            otherLetters("row 0 1:1 2;", word, " 0 0;");
        }
        bad("row 0 1:1 2;set 00;", SYNTAX, 18);
        bad("row 0 1:1 2;take 10;", RANGE, 17);
    }

    private static final String[] TOKENS = {"row", "2", "3", ":", "5", "-", "4", "3", ";", "set", "1", "-", "6", ";",
        "ask", "0", "2", ";", "keep", "1", "2", ";", "put", "3", "-", "7", ";", "take", "0", ";"};

    /** Of each token, which ones are allowed at its place: see allows. */
    private static final String[] KINDS = {"row", "number", "number", ":", "value", "rest", "number", "rest", "rest",
        "next", "number", "value", "number", ";", "next", "number", "number", ";", "next", "number", "number", ";",
        "next", "number", "value", "number", ";", "next", "number", ";"};

    private static boolean allows(String kind, String token) {
        boolean isNumber = Character.isDigit(token.charAt(0));
        switch (kind) {
            case "number": return isNumber;
            case "value": return isNumber || token.equals("-");
            case "rest": return isNumber || token.equals("-") || token.equals(";");
            case "next": return List.of("set", "ask", "keep", "put", "take").contains(token);
            default: return token.equals(kind);
        }
    }

    /** The tokens from the first one on, so many, with so few spaces between them as there must be. */
    private static String joined(int count) {
        StringBuilder text = new StringBuilder();
        for (int k = 0; k < count; k++) {
            text.append(needsSpace(k) ? " " : "").append(TOKENS[k]);
        }
        return text.toString();
    }

    private static boolean needsSpace(int k) {
        return k > 0 && Character.isDigit(TOKENS[k].charAt(0)) && Character.isDigit(TOKENS[k - 1].charAt(0));
    }

    private static void spacesAheadOfTokens() {
        Check.sentence("Spaces (byte 32) may precede any token and may follow the last one;");
        long due = Check.loaded(joined(TOKENS.length)).checksum();
        for (int at = 0; at <= TOKENS.length; at++) {
            for (int spaces = 1; spaces <= 3; spaces++) {
                StringBuilder text = new StringBuilder();
                for (int k = 0; k < TOKENS.length; k++) {
                    text.append(needsSpace(k) ? " " : "").append(k == at ? " ".repeat(spaces) : "").append(TOKENS[k]);
                }
                text.append(at == TOKENS.length ? " ".repeat(spaces) : "");
                good(text.toString(), 3);
                Check.same("checksum() behind " + text, Check.loaded(text.toString()).checksum(), due);
            }
        }
        String wide = "  " + String.join("  ", TOKENS) + "  ";
        Check.same("checksum() with spaces everywhere", Check.loaded(wide).checksum(), due);
    }

    private static void spacesBetweenNumbers() {
        Check.sentence("they are needed only between two numbers.");
        good(joined(TOKENS.length), 3);
        bad("row 23:5;", RANGE, 4);
        bad("row 02:5;", SYNTAX, 6);
        bad("row 2 3:5 4;set11;", RANGE, 15);
        bad("row 2 3:5 4;set01;", SYNTAX, 17);
        bad("row 2 3:5 4;ask01;", SYNTAX, 17);
        bad("row 2 3:5 4;keep01;", SYNTAX, 18);
        bad("row 2 3:5 4;put01;", SYNTAX, 17);
        Check.same("values without a space", Check.loaded("row 2 3:54;").state(0), 1);
        Check.same("values with a space", Check.loaded("row 2 3:5 4;").state(0), 2);
        Check.same("values with a sign", Check.loaded("row 2 3:5-4;").state(0), 2);
    }

    private static void noOtherByteSeparates() {
        Check.sentence("No other byte separates tokens.");
        for (int b = 0; b < 256; b++) {
            char sign = (char) b;
            boolean isLetter = sign >= 'a' && sign <= 'z';
            if (!isLetter && " 0123456789:;-".indexOf(sign) < 0) {
                for (int at = 0; at <= TOKENS.length; at++) {
                    String start = joined(at);
                    String rest = joined(TOKENS.length).substring(start.length());
                    bad(start + sign + rest, SYNTAX, start.length());
                    bad(start + " " + sign + " " + rest, SYNTAX, start.length() + 1);
                }
            }
        }
    }

    private static void signsAreTokens() {
        Check.sentence("(The signs \"-\" and \":\" are tokens, too.)");
        Check.same("a sign by itself", Check.loaded("row 0 1 : - 5 ;").value(0), -5);
        Check.same("a sign next to its number", Check.loaded("row 0 1:-5;").value(0), -5);
        Check.same("a sign of a second value", Check.loaded("row 0 1:4 -   5;").value(1), -5);
        bad("row 0 1:- - 5;", SYNTAX, 10);
        bad("row 0 1:-;", SYNTAX, 9);
        bad("row 0 1:5 -;", SYNTAX, 11);
        bad("row 0 1:5-;", SYNTAX, 10);
        bad("row 0 1::5;", SYNTAX, 8);
        bad("row 0 1 5;", SYNTAX, 8);
        bad("row:0 1 5;", SYNTAX, 3);
        bad("row 0 1:5;set 0:1;", SYNTAX, 15);
        bad("row 0 1:5;set -0 1;", SYNTAX, 14);
        bad("row -0 1:5;", SYNTAX, 4);
        bad("row 0 -1:5;", SYNTAX, 6);
        bad("row 0 1:5 6;ask 0 -1;", SYNTAX, 18);
    }

    private static void numbersOfRow() {
        Check.sentence("The numbers of row are the rule (0 to 2) and most;");
        for (int rule = 0; rule <= 4; rule++) {
            if (rule <= 2) {
                Check.same("rule " + rule, Check.loaded("row " + rule + " 1:5;").state(1), rule);
            } else {
                bad("row " + rule + " 1:5;", RANGE, 4);
            }
        }
        for (int most = 0; most <= 10; most++) {
            if (most >= 1 && most <= 8) {
                Check.same("most " + most, Check.loaded("row 0 " + most + ":5;").state(2), most);
            } else {
                bad("row 0 " + most + ":5;", RANGE, 6);
            }
        }
    }

    private static void whatIsBuiltBehindTheValues() {
        Check.sentence("all is built behind its values (what that writes counts).");
        int[][] due = {{1, 0}, {2, 1}, {3, 2}, {4, 4}, {39, 138}, {40, 143}};
        for (int[] d : due) {
            for (int rule = 0; rule <= 2; rule++) {
                DoubledRows x = Check.loaded("row " + rule + " 8:" + sevens(d[0]) + ";");
                Check.same("written for " + d[0] + " values", x.state(8), d[1]);
                Check.same("built for " + d[0] + " values", x.state(10), 1);
                Check.same("waiting of " + d[0] + " values", x.state(5), 0);
            }
        }
    }

    private static void placesOfStatements() {
        Check.sentence("Set tells a place and its value; ask and keep a stretch; put a place (0 to how many values"
            + " there are) and the value that is there then, those from that place on one further to the right; take"
            + " a place.");
        String row = "row 0 1:5 6 7;";
        for (int place = 0; place <= 4; place++) {
            String p = String.valueOf(place);
            placeIs(place <= 2, row + "set " + p + " 1;", 3, 18);
            placeIs(place <= 2, row + "ask " + p + " 2;", 3, 18);
            placeIs(place <= 2, row + "ask 0 " + p + ";", 3, 20);
            placeIs(place <= 2, row + "keep " + p + " 2;", 3, 19);
            placeIs(place <= 2, row + "keep 0 " + p + ";", 3, 21);
            placeIs(place <= 3, row + "put " + p + " 1;", 4, 18);
            placeIs(place <= 2, row + "take " + p + ";", 2, 19);
        }
        Check.values("set 0", Check.loaded(row + "set 0 -9;"), -9, 6, 7);
        Check.values("set 2", Check.loaded(row + "set 2 -9;"), 5, 6, -9);
        Check.values("put 0", Check.loaded(row + "put 0 -9;"), -9, 5, 6, 7);
        Check.values("put 2", Check.loaded(row + "put 2 -9;"), 5, 6, -9, 7);
        Check.values("put 3", Check.loaded(row + "put 3 -9;"), 5, 6, 7, -9);
        Check.values("take 0", Check.loaded(row + "take 0;"), 6, 7);
        Check.values("take 2", Check.loaded(row + "take 2;"), 5, 6);
        Check.keptOnes("keep", Check.loaded(row + "keep 0 2;keep 2 2;keep 0 0;"), 2, 202, 0);
        Check.states("ask", Check.loaded(row + "ask 0 2;ask 2 2;"), 3, 0, 1, 2, 2, 0, 0, 3, 2, 2, 1);
    }

    private static void placeIs(boolean fine, String text, int values, int offset) {
        if (fine) {
            good(text, values);
        } else {
            bad(text, RANGE, offset);
        }
    }

    private static void placesBehindPutAndTake() {
        Check.sentence("put a place (0 to how many values there are) and the value that is there then,");
        good("row 0 1:5;put 1 6;put 2 7;set 2 1;", 3);
        bad("row 0 1:5;put 1 6;put 3 7;", RANGE, 22);
        bad("row 0 1:5;set 1 6;put 1 7;", RANGE, 14);
        good("row 0 1:5 6;take 1;put 1 7;", 2);
        bad("row 0 1:5 6;take 1;put 2 7;", RANGE, 23);
        bad("row 0 1:5 6;take 0;ask 1 1;", RANGE, 23);
        bad("row 0 1:5 6;take 0;keep 0 1;", RANGE, 26);
        good("row 0 1:" + sevens(39) + ";put 39 1;set 39 2;ask 0 39;", 40);
        bad("row 0 1:" + sevens(39) + ";put 39 1;set 40 2;", RANGE, 87 + 9 + 4);
        bad("row 0 1:" + sevens(39) + ";put 40 1;", RANGE, 87 + 4);
    }

    private static void smallestOffset() {
        Check.sentence("The first error in the text is the one with the smallest offset.");
        bad("row 3 9:1000;x", RANGE, 4);
        bad("row x 9:1000;", SYNTAX, 4);
        bad("row 0 9:1000;", RANGE, 6);
        bad("row 0 1:1000 x", RANGE, 8);
        bad("row 0 1:5 x 1000", SYNTAX, 10);
        bad("row 0 1:5;take 0;x", REFUSED, 15);
        bad("row 0 1:5;x;take 0;", SYNTAX, 10);
        bad("row 0 1:5;set 1 1000", RANGE, 14);
        bad("row 0 1:5;set 0 1000", RANGE, 16);
        bad("row 0 1:5;set 0 1", SYNTAX, 17);
        bad("row 0 1:5 6;take 2;take 0;take 0;", RANGE, 17);
        bad("row 0 1:5 6;take 0;take 0;take 2;", REFUSED, 24);
        bad("row 0 1:5;" + "keep 0 0;".repeat(8) + "keep 0 1;", MANY, 87);
        bad("row 0 1:5;" + "keep 0 0;".repeat(7) + "keep 0 1;keep 0 0;", RANGE, 80);
        bad("row 0 1:" + sevens(40) + "-1000;", MANY, 88);
        bad("row 0 1:" + sevens(39) + "-1000 7;", RANGE, 87);
        bad("row 0 1:" + sevens(40) + ";put 0 1000;", MANY, 93);
    }

    private static void firstInTheListCounts() {
        Check.sentence("If several kinds of error have the same offset, the first one in this list counts:");
        bad("row 0 1:" + sevens(40) + "1000;", RANGE, 88);
        bad("row 0 1:" + sevens(40) + "999;", MANY, 88);
        bad("row 0 1:" + sevens(40) + "x;", SYNTAX, 88);
        bad("row 0 1:" + sevens(40) + ";put 41 7;", RANGE, 93);
        bad("row 0 1:" + sevens(40) + ";put 40 7;", MANY, 93);
        bad("row 0 1:" + sevens(40) + ";put -1 7;", SYNTAX, 93);
        bad("row 0 1:5;" + "keep 0 0;".repeat(8) + "keep 1 1;", RANGE, 87);
        bad("row 0 1:5;" + "keep 0 0;".repeat(8) + "keep 0 0;", MANY, 87);
        bad("row 0 1:5;" + "keep 0 0;".repeat(8) + "keep -1 0;", SYNTAX, 87);
        bad("row 0 1:5;take 1;", RANGE, 15);
        bad("row 0 1:5;take 0;", REFUSED, 15);
        bad("row 0 1:5;take -1;", SYNTAX, 15);
    }

    private static void tokensThatAreNotAllowed() {
        Check.sentence("SYNTAX_ERROR: a token or byte that the grammar does not allow here, at its first byte;");
        String[] tried = {"row", "set", "ask", "keep", "put", "take", "x", "rows", "z", "0", "-", ":", ";", "+", "!",
            "\t", "A", "\u00e9", "\0"};
        for (int at = 0; at < TOKENS.length; at++) {
            String start = joined(at) + " ";
            for (String token : tried) {
                if (!allows(KINDS[at], token)) {
                    bad(start + token, SYNTAX, start.length());
                    bad(start + token + " 99999 " + token, SYNTAX, start.length());
                }
            }
            Check.same(TOKENS[at] + " is allowed at " + at, allows(KINDS[at], TOKENS[at]), (Object) true);
        }
        String whole = joined(TOKENS.length) + " ";
        for (String token : tried) {
            if (!allows("next", token)) {
                bad(whole + token, SYNTAX, whole.length());
            }
        }
    }

    private static void endOfTheText() {
        Check.sentence("the end of the text, at its length, if the text ends too early.");
        for (int count = 0; count <= TOKENS.length; count++) {
            String text = joined(count);
            boolean isWhole = count == TOKENS.length || KINDS[count].equals("next");
            for (int spaces = 0; spaces <= 2; spaces++) {
                String padded = text + " ".repeat(spaces);
                if (isWhole) {
                    DoubledRows x = new DoubledRows();
                    Check.same("load of " + padded, Check.load(x, padded) > 0, (Object) true);
                } else {
                    bad(padded, SYNTAX, padded.length());
                }
            }
        }
        DoubledRows x = new DoubledRows();
        Check.fill(x, "row 0 1:5 6;ask 0 1;");
        Check.same("load of all but the last byte", x.load(19), SYNTAX);
        Check.same("errorOffset(): the length that was read", x.errorOffset(), 19);
    }

    private static void rangeOfAValue() {
        Check.sentence("OUT_OF_RANGE: a number outside its range (of a value: greater than 999;");
        for (String sign : new String[] {"", "-"}) {
            int longer = sign.length();
            good("row 0 1:" + sign + "0;", 1);
            good("row 0 1:" + sign + "998;", 1);
            good("row 0 1:" + sign + "999;", 1);
            bad("row 0 1:" + sign + "1000;", RANGE, 8 + longer);
            bad("row 0 1:" + sign + "1001;", RANGE, 8 + longer);
            good("row 0 1:5;set 0 " + sign + "999;", 1);
            bad("row 0 1:5;set 0 " + sign + "1000;", RANGE, 16 + longer);
            good("row 0 1:5;put 1 " + sign + "999;", 2);
            bad("row 0 1:5;put 1 " + sign + "1000;", RANGE, 16 + longer);
        }
    }

    private static void rangeOfAStretch() {
        Check.sentence("the second place of a stretch, if it is less than the first one, too), at its first digit.");
        for (String word : new String[] {"ask", "keep"}) {
            for (int from = 0; from < 4; from++) {
                for (int to = 0; to <= 4; to++) {
                    String text = "row 0 1:5 6 7 8;" + word + " " + from + " " + to + ";";
                    if (to < from || to == 4) {
                        bad(text, RANGE, text.length() - 2);
                    } else {
                        good(text, 4);
                    }
                }
            }
        }
    }

    private static void rangeIsToldAtTheFirstDigit() {
        Check.sentence("too), at its first digit.");
        bad("row   003   1:5;", RANGE, 6);
        bad("row 0   0009:5;", RANGE, 8);
        bad("row 0 1:5   -   001000;", RANGE, 16);
        bad("row 0 1:5;set   001   5;", RANGE, 16);
        bad("row 0 1:5;set 0   -   01000;", RANGE, 22);
        bad("row 0 1:5 6;ask 1   000;", RANGE, 20);
        bad("row 0 1:5 6;keep   02 0;", RANGE, 19);
        bad("row 0 1:5;put   02 5;", RANGE, 16);
        bad("row 0 1:5;take   01;", RANGE, 17);
    }

    private static void fortyFirstValue() {
        Check.sentence("TOO_MANY: a 41st value, at its first byte");
        good("row 0 1:" + sevens(39) + ";", 39);
        good("row 0 1:" + sevens(39) + "7;", 40);
        bad("row 0 1:" + sevens(40) + "7;", MANY, 88);
        bad("row 0 1:" + sevens(40) + "0;", MANY, 88);
        bad("row 0 1:" + sevens(40) + "999;", MANY, 88);
        bad("row 0 1:" + sevens(40) + "   007;", MANY, 91);
        bad("row 0 1:" + sevens(40) + "-7;", MANY, 88);
        bad("row 0 1:" + sevens(40) + "  -  7;", MANY, 90);
        bad("row 0 1:" + sevens(40) + "7", MANY, 88);
        bad("row 0 1:" + sevens(42) + ";", MANY, 88);
        bad("row 0 1:" + sevens(40), SYNTAX, 88);
        bad("row 0 1:" + sevens(40) + ":", SYNTAX, 88);
    }

    private static void fortyFirstValueByPut() {
        Check.sentence("(also of put, there at the first digit of the place);");
        good("row 0 1:" + sevens(39) + ";put 0 7;", 40);
        bad("row 0 1:" + sevens(39) + ";put 0 7;put   00 7;", MANY, 87 + 8 + 6);
        bad("row 0 1:" + sevens(40) + ";put 0 7;", MANY, 93);
        bad("row 0 1:" + sevens(40) + ";put 40 -7;", MANY, 93);
        bad("row 0 1:" + sevens(40) + ";put 40", MANY, 93);
        bad("row 0 1:" + sevens(40) + ";put ", SYNTAX, 93);
        good("row 0 1:" + sevens(40) + ";take 39;put 39 7;", 40);
        bad("row 0 1:" + sevens(40) + ";take 39;put 39 7;put 0 7;", MANY, 89 + 8 + 9 + 4);
    }

    private static void ninthStretch() {
        Check.sentence("a 9th stretch that is kept, at the first digit of its first place.");
        String row = "row 0 1:5 6;keep 1 1;";
        good(row + "keep 0 1;".repeat(6), 2);
        good(row + "keep 0 1;".repeat(7), 2);
        bad(row + "keep 0 1;".repeat(8), MANY, 21 + 63 + 5);
        bad(row + "keep 0 1;".repeat(7) + "keep   01 1;", MANY, 21 + 63 + 7);
        bad(row + "keep 0 1;".repeat(7) + "keep 1 0;", MANY, 21 + 63 + 5);
        bad(row + "keep 0 1;".repeat(7) + "keep 1", MANY, 21 + 63 + 5);
        good(row + "keep 0 1;".repeat(7) + "take 1;keep 0 0;", 1);
        bad(row + "keep 0 1;".repeat(7) + "take 1;keep 0 0;keep 0 0;", MANY, 21 + 63 + 7 + 9 + 5);
        bad(row + "keep 0 1;".repeat(7) + "take 0;keep 0 0;", MANY, 21 + 63 + 7 + 5);
    }

    private static void takeOfTheOnlyValue() {
        Check.sentence("REFUSED: take of the only value, at the first digit of its place.");
        good("row 0 1:5 6;take 0;", 1);
        good("row 0 1:5 6;take 1;", 1);
        bad("row 0 1:5;take 0;", REFUSED, 15);
        bad("row 0 1:5;take   00;", REFUSED, 17);
        bad("row 0 1:5;take 0", REFUSED, 15);
        bad("row 0 1:5 6;take 1;take 0;", REFUSED, 24);
        bad("row 0 1:5 6;take 1;take 1;", RANGE, 24);
        good("row 0 1:5 6;take 1;put 1 7;take 0;", 1);
    }
}
