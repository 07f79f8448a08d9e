/** The edges of the sentences under REFUSED, and of promise 7, place. */
public final class EdgesOfRefusalTest {
    public static void main(String[] args) {
        Check check = new Check();
        usedUpByBegin(check);
        usedUpByNext(check);
        usedUpByPattern(check);
        usedUpByEnd(check);
        escapeOfName(check);
        smallestAndLargestPlace(check);
        latestText(check);
        wrongCallsKeepIt(check);
        check.done();
    }

    private static void usedUp(Check check, String by, TokenScanner x, int place) {
        check.due("place, " + by, x.place(), place);
        check.due("end, " + by, Check.ofEnd(x), Check.STATE);
        check.due("next, " + by, Check.of(x::next), Check.STATE);
        check.due("pattern, " + by, Check.of(x::pattern), Check.STATE);
        for (int what = 0; what <= 8; what++) {
            int asked = what;
            check.due("token " + what + ", " + by, Check.of(() -> x.token(asked)), Check.STATE);
        }
        check.due("unit, " + by, Check.of(() -> x.unit(0)), Check.STATE);
        check.due("name, " + by, Check.of(x::name), Check.STATE);
        check.due("literal, " + by, Check.of(x::literal), Check.STATE);
        check.due("place is the same then, " + by, x.place(), place);
        check.due("feed begins a text anew, " + by, Check.of(() -> x.feed(0x2062, 2)), 2);
        check.due("place while it is fed, " + by, x.place(), place);
        check.due("begin of the new one, " + by, Check.of(x::begin), 1);
        check.dueToken("the new one, " + by, x, 1, 1, 2, 0, -1, 0, 0, 1, 0);
        check.due("its unit, " + by, x.unit(0), (int) 'b');
        check.due("its place, " + by, x.place(), -1);
        check.due("nothing of the old one behind it, " + by, Check.of(x::next), 0);
        check.due("the END of the new one, " + by, x.token(1), 2);
    }

    private static void usedUpByBegin(Check check) {
        check.sentence("The text is used up then: refused by begin");
        TokenScanner x = Check.fed("#abcdefghij");
        check.due("begin", Check.of(x::begin), Check.ARGUMENT);
        usedUp(check, "refused by begin", x, 0);
        TokenScanner again = Check.fed("'a");
        check.due("begin", Check.of(again::begin), Check.ARGUMENT);
        check.due("begin once more is of the empty text", Check.of(again::begin), 0);
        check.due("its place", again.place(), -1);
        check.due("its END", again.token(1), 0);
    }

    private static void usedUpByNext(Check check) {
        check.sentence("The text is used up then: refused by next");
        TokenScanner x = Check.begun("ab 08 'cde'");
        check.due("next", Check.of(x::next), Check.ARGUMENT);
        usedUp(check, "refused by next", x, 4);
        TokenScanner again = Check.begun("a #");
        check.due("next", Check.of(again::next), Check.ARGUMENT);
        check.due("begin is of the empty text", Check.of(again::begin), 0);
    }

    private static void usedUpByPattern(Check check) {
        check.sentence("The text is used up then: refused by pattern");
        TokenScanner x = Check.begun("/=ab\n/ cd");
        check.due("pattern", Check.of(x::pattern), Check.ARGUMENT);
        usedUp(check, "refused by pattern", x, 4);
        TokenScanner again = Check.begun("/a");
        check.due("pattern", Check.of(again::pattern), Check.ARGUMENT);
        check.due("begin is of the empty text", Check.of(again::begin), 0);
    }

    private static void usedUpByEnd(Check check) {
        check.sentence("The text is used up then, and when it is ended");
        for (String text : new String[] {"", "ab cd", "1 2", "'a' b", "+ c", "/ d"}) {
            TokenScanner x = Check.begun(text);
            check.due("end", Check.ofEnd(x), "ends");
            usedUp(check, "ended at the first of " + text, x, -1);
        }
        TokenScanner x = Check.begun("/a/ #");
        x.pattern();
        check.due("end", Check.ofEnd(x), "ends");
        usedUp(check, "ended at a pattern", x, -1);
        TokenScanner atEnd = Check.begun("a");
        atEnd.next();
        check.due("end", Check.ofEnd(atEnd), "ends");
        check.due("begin is of the empty text", Check.of(atEnd::begin), 0);
        check.due("end", Check.ofEnd(atEnd), "ends");
        usedUp(check, "ended at the END", atEnd, -1);
    }

    private static void escapeOfName(Check check) {
        check.sentence("for an escape of a name that gives no unit for it its first byte");
        check.dueKinds("\\u0030", "!0", "\\u0020", "!0", "a\\u0020b", "!1", "abc\\u00d7", "!3", "\\u0061\\u002d", "!6", "a b\\u0100", "1!3", "\n\\uffff", "!1", "/**/\\u0000", "!4", "x.\\u0031", "14!2");
    }

    private static void smallestAndLargestPlace(Check check) {
        check.sentence("told by the PLACE of the byte: the first and the last there can be");
        check.dueKinds("#", "!0", "\u0000", "!0", "\u00d7", "!0");
        check.due("the last byte of 2,000", Check.kinds(" ".repeat(1999) + "#"), "!1999");
        check.due("the end of 2,000", Check.kinds(" ".repeat(1999) + "'"), "!2000");
        check.due("the end of 2,000, behind a backslash", Check.kinds(" ".repeat(1999) + "\\"), "!2000");
        check.due("the end of 2,000, of a pattern", Check.kindsWithPatterns(" ".repeat(1999) + "/"), "!2000");
        check.due("one byte, and the end", Check.kinds("'"), "!1");
    }

    private static void latestText(Check check) {
        check.sentence("Where the latest text that was begun was refused; -1 when it was not (so far), or there was none");
        TokenScanner x = new TokenScanner();
        check.due("there was none", x.place(), -1);
        x.feed('#', 1);
        check.due("fed, not begun", x.place(), -1);
        check.due("begin", Check.of(x::begin), Check.ARGUMENT);
        check.due("refused at 0", x.place(), 0);
        Check.feed(x, " #");
        check.due("begin", Check.of(x::begin), Check.ARGUMENT);
        check.due("refused at 1, the one before at 0", x.place(), 1);
        Check.feed(x, "a b #");
        check.due("begin", Check.of(x::begin), 1);
        check.due("not so far", x.place(), -1);
        check.due("next", Check.of(x::next), 1);
        check.due("not so far by next", x.place(), -1);
        check.due("next", Check.of(x::next), Check.ARGUMENT);
        check.due("then at 4", x.place(), 4);
        check.due("begin of the empty one", Check.of(x::begin), 0);
        check.due("the empty one was not", x.place(), -1);
        x.end();
        check.due("nor when it is ended", x.place(), -1);
    }

    private static void wrongCallsKeepIt(Check check) {
        check.sentence("a call that the state or an argument forbids refuses no text");
        TokenScanner x = Check.begun("a #");
        check.due("begin", Check.of(x::begin), Check.STATE);
        check.due("pattern", Check.of(x::pattern), Check.STATE);
        check.due("literal", Check.of(x::literal), Check.STATE);
        check.due("feed", Check.of(() -> x.feed(65, 1)), Check.STATE);
        check.due("feed", Check.of(() -> x.feed(65, 0)), Check.ARGUMENT);
        check.due("token", Check.of(() -> x.token(9)), Check.ARGUMENT);
        check.due("unit", Check.of(() -> x.unit(1)), Check.INDEX);
        check.due("text", Check.of(() -> x.text(false, 0, -1)), Check.INDEX);
        check.due("place", x.place(), -1);
        check.dueToken("the token that stands", x, 1, 0, 1, 0, -1, 0, 0, 1, 0);
        check.due("next", Check.of(x::next), Check.ARGUMENT);
        check.due("place", x.place(), 2);
    }
}
