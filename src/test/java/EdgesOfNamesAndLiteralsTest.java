/** The edges of the sentences under NAMES and LITERALS, and of promises 10 to 12. */
public final class EdgesOfNamesAndLiteralsTest {
    public static void main(String[] args) {
        Check check = new Check();
        numbersOfNames(check);
        numbersOfLiterals(check);
        stayUntilBegun(check);
        goWhenRefused(check);
        whichCanBe(check);
        mostUnits(check);
        mostLiterals(check);
        mostNames(check);
        emptyOnes(check);
        wrongTexts(check);
        check.done();
    }

    private static void numbersOfNames(Check check) {
        check.sentence("NAMES are numbered 0, 1, .. as they are asked for (the same units the same number)");
        TokenScanner x = Check.begun("a b ab a 1 '1' \"a\" \\u0061 '\\x61b' 1.0 A 'a\\\n' '\\u0161' var 'var' ''");
        int[] due = {0, 1, 2, 0, 3, 3, 0, 0, 2, 4, 5, 0, 6, 7, 7, 8};
        for (int k = 0; k < due.length; k++) {
            check.due("the name of token " + k, Check.of(x::name), due[k]);
            check.due("asked for again", Check.of(x::name), due[k]);
            x.next();
        }
        String[] units = {"a", "b", "ab", "1", "1.0", "A", "\u0161", "var", ""};
        for (int n = 0; n < units.length; n++) {
            check.due("units of name " + n, Check.kept(x, false, n), units[n]);
        }
        check.due("none behind the last", Check.of(() -> x.text(false, units.length, -1)), Check.INDEX);
        TokenScanner skipped = Check.begun("a b c");
        skipped.next();
        skipped.next();
        check.due("numbered as they are asked for, not as they stand", Check.of(skipped::name), 0);
        check.due("units of it", Check.kept(skipped, false, 0), "c");
    }

    private static void numbersOfLiterals(Check check) {
        check.sentence("LITERALS as they are asked for, each anew");
        TokenScanner x = Check.begun("1 '1' '' /1/");
        for (int n = 0; n < 3; n++) {
            check.due("the same number anew", Check.of(x::literal), n);
        }
        check.due("a name beside it has numbers of its own", Check.of(x::name), 0);
        x.next();
        check.due("the same units anew", Check.of(x::literal), 3);
        x.next();
        check.due("the empty text", Check.of(x::literal), 4);
        check.due("the empty text anew", Check.of(x::literal), 5);
        x.next();
        x.pattern();
        check.due("a pattern", Check.of(x::literal), 6);
        check.due("a pattern anew", Check.of(x::literal), 7);
        String[] units = {"1", "1", "1", "1", "", "", "/1/", "/1/"};
        for (int n = 0; n < units.length; n++) {
            check.due("units of literal " + n, Check.kept(x, true, n), units[n]);
        }
        check.due("none behind the last", Check.of(() -> x.text(true, units.length, -1)), Check.INDEX);
        check.due("the one name", Check.kept(x, false, 0), "1");
        check.due("no other name", Check.of(() -> x.text(false, 1, -1)), Check.INDEX);
    }

    private static TokenScanner withOneOfEach() {
        TokenScanner x = Check.begun("'ab' #");
        x.name();
        x.literal();
        return x;
    }

    private static void bothStay(Check check, TokenScanner x, String when) {
        check.due("the name stays " + when, Check.of(() -> Check.kept(x, false, 0)), "ab");
        check.due("the literal stays " + when, Check.of(() -> Check.kept(x, true, 0)), "ab");
    }

    private static void bothAreGone(Check check, TokenScanner x, String when) {
        for (int i = -1; i <= 1; i++) {
            int asked = i;
            check.due("the name is gone " + when, Check.of(() -> x.text(false, 0, asked)), Check.INDEX);
            check.due("the literal is gone " + when, Check.of(() -> x.text(true, 0, asked)), Check.INDEX);
        }
    }

    private static void stayUntilBegun(Check check) {
        check.sentence("they stay until a text is begun");
        TokenScanner ended = withOneOfEach();
        ended.end();
        bothStay(check, ended, "when it is ended");
        ended.feed('1', 1);
        bothStay(check, ended, "while another is fed");
        check.due("begin", Check.of(ended::begin), 2);
        bothAreGone(check, ended, "when another is begun");
        check.due("the first name anew", Check.of(ended::name), 0);
        check.due("the first literal anew", Check.of(ended::literal), 0);
        check.due("units of the name", Check.kept(ended, false, 0), "1");
        check.due("units of the literal", Check.kept(ended, true, 0), "1");
        TokenScanner refused = withOneOfEach();
        check.due("next", Check.of(refused::next), Check.ARGUMENT);
        bothStay(check, refused, "when it is refused");
        check.due("begin of the empty text", Check.of(refused::begin), 0);
        bothAreGone(check, refused, "when the empty text is begun");
        TokenScanner wrong = withOneOfEach();
        check.due("begin with a token", Check.of(wrong::begin), Check.STATE);
        bothStay(check, wrong, "when begin is not allowed");
    }

    private static void goWhenRefused(Check check) {
        check.sentence("There are no names and literals");
        TokenScanner x = withOneOfEach();
        x.end();
        x.feed('#', 1);
        check.due("begin", Check.of(x::begin), Check.ARGUMENT);
        bothAreGone(check, x, "when the text that is begun is refused");
    }

    private static void whichCanBe(Check check) {
        check.sentence("it is no NAME, NUMBER or TEXT; it is no NUMBER, TEXT or PATTERN");
        String[] texts = {"", "a", "if", "\\u0061", "1", "'a'", "+", "/", "/="};
        boolean[] names = {false, true, true, true, true, true, false, false, false};
        boolean[] literals = {false, false, false, false, true, true, false, false, false};
        for (int k = 0; k < texts.length; k++) {
            TokenScanner x = Check.begun(texts[k]);
            check.due("name of " + texts[k], Check.of(x::name), names[k] ? "0" : Check.STATE);
            check.due("literal of " + texts[k], Check.of(x::literal), literals[k] ? "0" : Check.STATE);
            check.due("a name is kept", Check.of(() -> x.text(false, 0, -1)).equals(Check.INDEX), !names[k]);
            check.due("a literal is kept", Check.of(() -> x.text(true, 0, -1)).equals(Check.INDEX), !literals[k]);
        }
        TokenScanner pattern = Check.begun("/a/");
        pattern.pattern();
        check.due("name of a pattern", Check.of(pattern::name), Check.STATE);
        check.due("literal of a pattern", Check.of(pattern::literal), 0);
        TokenScanner none = Check.fed("1");
        check.due("name before begin", Check.of(none::name), Check.STATE);
        check.due("literal before begin", Check.of(none::literal), Check.STATE);
    }

    private static void mostUnits(Check check) {
        check.sentence("there would be more than 8,192 units of them");
        TokenScanner x = Check.begun("'" + "a".repeat(1638) + "' 12 1 '' /a/");
        for (int n = 0; n < 5; n++) {
            check.due("1,638 units more", Check.of(x::literal), n);
        }
        check.due("9,828 units", Check.of(x::literal), Check.STATE);
        x.next();
        check.due("8,192 units", Check.of(x::literal), 5);
        check.due("8,194 units", Check.of(x::literal), Check.STATE);
        x.next();
        check.due("8,193 units", Check.of(x::literal), Check.STATE);
        check.due("a name is no literal", Check.of(x::name), 0);
        x.next();
        check.due("8,192 units and the empty text", Check.of(x::literal), 6);
        check.due("the empty text's units", x.text(true, 6, -1), 0);
        x.next();
        x.pattern();
        check.due("8,195 units", Check.of(x::literal), Check.STATE);
        check.due("none by the refused calls", Check.of(() -> x.text(true, 7, -1)), Check.INDEX);
        check.due("the last unit of all", x.text(true, 5, 1), (int) '2');
        x.end();
        Check.feed(x, "'" + "b".repeat(100) + "'");
        check.due("begin", Check.of(x::begin), 3);
        check.due("room anew", Check.of(x::literal), 0);
        check.due("its last unit", x.text(true, 0, 99), (int) 'b');
    }

    /** No 512 calls reach this limit, so that the document leaves it free; the class keeps it all the same. */
    private static void mostLiterals(Check check) {
        check.sentence("there would be more than 1,024 literals");
        TokenScanner x = Check.begun("1 ''");
        for (int n = 0; n < 1023; n++) {
            check.due("a literal more", Check.of(x::literal), n);
        }
        x.next();
        check.due("the 1,024th", Check.of(x::literal), 1023);
        check.due("the 1,025th", Check.of(x::literal), Check.STATE);
        check.due("units of the 1,023rd", Check.kept(x, true, 1022), "1");
        check.due("units of the 1,024th", Check.kept(x, true, 1023), "");
        check.due("no 1,025th", Check.of(() -> x.text(true, 1024, -1)), Check.INDEX);
    }

    private static void mostNames(Check check) {
        check.sentence("The number of its units as a name: as many as a run of 512 calls can ask for");
        StringBuilder text = new StringBuilder();
        for (int k = 0; k < 220; k++) {
            text.append((char) ('a' + k / 20)).append((char) ('a' + k % 20)).append(' ');
        }
        TokenScanner x = Check.begun(text.toString());
        for (int k = 0; k < 200; k++) {
            check.due("name " + k, Check.of(x::name), k);
            x.next();
        }
        check.due("units of the first", Check.kept(x, false, 0), "aa");
        check.due("units of the last", Check.kept(x, false, 199), "jt");
        check.due("none behind it", Check.of(() -> x.text(false, 200, -1)), Check.INDEX);
        TokenScanner longest = Check.begun("a".repeat(2000));
        check.due("2,000 units", Check.of(longest::name), 0);
        check.due("its last unit", longest.text(false, 0, 1999), (int) 'a');
        check.due("none behind it", Check.of(() -> longest.text(false, 0, 2000)), Check.INDEX);
    }

    private static void emptyOnes(Check check) {
        check.sentence("How many units a literal (or name) has (i = -1)");
        TokenScanner x = Check.begun("'' '\\\n' 'a'");
        check.due("the empty name", Check.of(x::name), 0);
        check.due("the empty literal", Check.of(x::literal), 0);
        x.next();
        check.due("the same, with a line end", Check.of(x::name), 0);
        check.due("an empty literal more", Check.of(x::literal), 1);
        for (boolean literal : new boolean[] {false, true}) {
            check.due("its units", Check.of(() -> x.text(literal, 0, -1)), 0);
            check.due("its unit 0", Check.of(() -> x.text(literal, 0, 0)), Check.INDEX);
        }
        x.next();
        check.due("a name behind it", Check.of(x::name), 1);
        check.due("its units", Check.kept(x, false, 1), "a");
    }

    private static void wrongTexts(Check check) {
        check.sentence("IndexOutOfBoundsException: there is none");
        TokenScanner x = Check.begun("'abc' 'de'");
        x.name();
        x.literal();
        x.next();
        x.name();
        x.literal();
        for (boolean literal : new boolean[] {false, true}) {
            check.due("the first unit", Check.of(() -> x.text(literal, 0, 0)), (int) 'a');
            check.due("the last unit", Check.of(() -> x.text(literal, 0, 2)), (int) 'c');
            check.due("the last unit of the last", Check.of(() -> x.text(literal, 1, 1)), (int) 'e');
            for (int i : new int[] {-2, 3, 4, 1999, 2000, 8191, 8192, Integer.MIN_VALUE, Integer.MAX_VALUE}) {
                check.due("unit " + i, Check.of(() -> x.text(literal, 0, i)), Check.INDEX);
            }
            check.due("unit 2 of the last", Check.of(() -> x.text(literal, 1, 2)), Check.INDEX);
            for (int n : new int[] {-1, 2, 3, 1023, 1024, 2000, Integer.MIN_VALUE, Integer.MAX_VALUE}) {
                check.due("number " + n, Check.of(() -> x.text(literal, n, -1)), Check.INDEX);
                check.due("unit 0 of number " + n, Check.of(() -> x.text(literal, n, 0)), Check.INDEX);
                check.due("unit -2 of number " + n, Check.of(() -> x.text(literal, n, -2)), Check.INDEX);
            }
        }
    }
}
