/** The edges of the sentences on texts (TOKENS), and of "use strict". */
public final class EdgesOfTextsTest {
    public static void main(String[] args) {
        Check check = new Check();
        for (char quote : new char[] {'"', '\''}) {
            quotes(check, quote, quote == '"' ? '\'' : '"');
            everyByte(check, quote);
            singleEscapes(check, quote);
            hexEscapes(check, quote);
            zeroEscapes(check, quote);
            digitEscapes(check, quote);
            lineEndsBehindBackslash(check, quote);
            missingParts(check, quote);
            useStrict(check, quote);
            longestOnes(check, quote);
        }
        check.done();
    }

    private static void kinds(Check check, char quote, String inner, String want) {
        String text = quote + inner + quote;
        check.due("kinds of " + text, Check.kinds(text), want);
    }

    private static void units(Check check, char quote, String inner, String want) {
        check.dueUnits(quote + inner + quote, want);
    }

    private static void quotes(Check check, char quote, char other) {
        check.sentence("Texts in \" or ' as in 7.8.4");
        String empty = "" + quote + quote;
        check.dueToken("the empty text", Check.begun(empty), 3, 0, 2, 0, -1, 0, 0, 0, 0);
        check.due("its unit 0", Check.of(() -> Check.begun(empty).unit(0)), Check.INDEX);
        units(check, quote, "" + other, "" + other);
        units(check, quote, "\\" + quote, "" + quote);
        units(check, quote, "\\" + other, "" + other);
        check.dueKinds(empty + empty, "33", empty + "a", "31", empty + "1", "32", "" + quote + other, "!2", "" + quote + other + quote + other, "3!4");
    }

    private static void everyByte(Check check, char quote) {
        check.sentence("bytes 0 .. 255 are UNITS");
        for (int c = 0; c < 256; c++) {
            if (Check.isLineEnd(c)) {
                kinds(check, quote, "a" + (char) c, "!2");
            } else if (c != quote && c != '\\') {
                String text = quote + "a" + (char) c + "b" + quote;
                check.dueToken(text, Check.begun(text), 3, 0, 5, 0, -1, 0, 0, 3, 0);
                check.due("the unit " + c, Check.begun(text).unit(1), c);
            }
        }
    }

    private static void singleEscapes(Check check, char quote) {
        check.sentence("escapes");
        String letters = "bfnrtv";
        String stands = "\b\f\n\r\t\u000b";
        for (int c = 0; c < 256; c++) {
            boolean other = Check.isDigit(c) || c == 'x' || c == 'u' || Check.isLineEnd(c);
            if (!other) {
                int at = letters.indexOf(c);
                String text = quote + "a\\" + (char) c + "b" + quote;
                units(check, quote, "a\\" + (char) c + "b", "a" + (at >= 0 ? stands.charAt(at) : (char) c) + "b");
                check.due("an escape stands in " + text, Check.begun(text).token(5), 1);
            }
        }
    }

    private static void hexEscapes(Check check, char quote) {
        check.sentence("escapes of 2 and 4 digits to the base of 16");
        for (int c = 0; c < 256; c++) {
            String low = String.format("%02x", c);
            units(check, quote, "\\x" + low, "" + (char) c);
            units(check, quote, "\\x" + low.toUpperCase() + "0", (char) c + "0");
            units(check, quote, "\\u00" + low, "" + (char) c);
        }
        for (int c : new int[] {0x100, 0xfff, 0x1000, 0x2028, 0x7fff, 0x8000, 0xd800, 0xffff}) {
            TokenScanner x = Check.begun(quote + Check.escape(c) + "0" + quote);
            check.due("how many units", x.token(7), 2);
            check.due("the unit of " + Check.escape(c), x.unit(0), c);
        }
        for (char wrong : new char[] {'/', ':', '@', 'G', '`', 'g', ' ', '\n', '\\', quote}) {
            kinds(check, quote, "\\x" + wrong + "0", "!3");
            kinds(check, quote, "\\x0" + wrong, "!4");
            for (int right = 0; right < 4; right++) {
                kinds(check, quote, "\\u" + "0".repeat(right) + wrong + "000", "!" + (3 + right));
            }
        }
        units(check, quote, "\\X41\\U0041", "X41U0041");
    }

    private static void zeroEscapes(Check check, char quote) {
        check.sentence("a backslash and 0 not followed by a digit");
        units(check, quote, "\\0", "\0");
        for (int c = 0; c < 256; c++) {
            if (Check.isDigit(c)) {
                kinds(check, quote, "\\0" + (char) c, "!3");
                kinds(check, quote, "a\\0b\\0" + (char) c, "!7");
            } else if (c != quote && c != '\\' && !Check.isLineEnd(c)) {
                units(check, quote, "\\0" + (char) c, "\0" + (char) c);
            }
        }
        units(check, quote, "\\0\\0", "\0\0");
        units(check, quote, "\\0\\\n1", "\0" + "1");
        units(check, quote, "\\0\\x31", "\0" + "1");
    }

    private static void digitEscapes(Check check, char quote) {
        check.sentence("others of digits are refused");
        for (char digit = '1'; digit <= '9'; digit++) {
            kinds(check, quote, "\\" + digit, "!2");
            kinds(check, quote, "ab\\" + digit + "0", "!4");
            kinds(check, quote, "\\0\\" + digit, "!4");
        }
        check.sentence("without annex B's additions (so that octal escapes are refused everywhere)");
        for (String octal : new String[] {"\\00", "\\01", "\\07", "\\000", "\\012"}) {
            kinds(check, quote, octal, "!3");
        }
        for (String octal : new String[] {"\\1", "\\7", "\\12", "\\377", "\\400"}) {
            kinds(check, quote, octal, "!2");
        }
        units(check, quote, "\\:\\/", ":/");
    }

    private static void lineEndsBehindBackslash(Check check, char quote) {
        check.sentence("a line end behind a backslash gives nothing");
        for (String end : new String[] {"\n", "\r", "\r\n"}) {
            String text = quote + "\\" + end + quote;
            check.dueToken("a text of just that", Check.begun(text), 3, 0, text.length(), 0, -1, 1, 0, 0, 0);
            units(check, quote, "a\\" + end + "b", "ab");
            units(check, quote, "\\" + end + "\\" + end, "");
            kinds(check, quote, "\\" + end + "\r", "!" + (2 + end.length()));
            TokenScanner x = Check.begun(text + "a");
            x.next();
            check.due("it ends no line before the next token", x.token(3), 0);
        }
        kinds(check, quote, "\\\\\n", "!3");
    }

    private static void missingParts(Check check, char quote) {
        check.sentence("REFUSED: the text's end where something is missing there: in a text");
        for (String part : new String[] {"", "a", "\\", "\\a", "\\x", "\\x4", "\\x41", "\\u", "\\u0", "\\u00", "\\u004", "\\u0041", "\\0", "\\\n", "\\\r", "\\\r\n", "\\" + quote}) {
            check.dueKinds(quote + part, "!" + (1 + part.length()), "a " + quote + part, "1!" + (3 + part.length()));
        }
        check.sentence("REFUSED: the byte that can't stand there: a line end in a text");
        check.dueKinds(quote + "\n" + quote, "!1", quote + "\r" + quote, "!1", quote + "ab\r\n" + quote, "!3", "a" + quote + "b\n", "1!3");
    }

    private static void useStrict(Check check, char quote) {
        check.sentence("8 whether it is a text of just the units use strict, without any of these");
        useStrict(check, quote + "use strict" + quote, 1);
        String words = "use strict";
        for (int k = 0; k < words.length(); k++) {
            String before = words.substring(0, k);
            String behind = words.substring(k + 1);
            useStrict(check, quote + before + Check.escape(words.charAt(k)) + behind + quote, 0);
            useStrict(check, quote + before + "\\\n" + words.substring(k) + quote, 0);
            useStrict(check, quote + before + behind + quote, 0);
            useStrict(check, quote + before + "_" + behind + quote, 0);
            useStrict(check, quote + before + words.charAt(k) + words.substring(k) + quote, 0);
        }
        useStrict(check, quote + words + "\\\r\n" + quote, 0);
        useStrict(check, quote + words + " " + quote, 0);
        useStrict(check, quote + " " + words + quote, 0);
        useStrict(check, "" + quote + quote, 0);
        for (String other : new String[] {"use strict", "", "1", "/use strict/", "use"}) {
            useStrict(check, other, 0);
        }
        TokenScanner x = Check.begun("/use strict/");
        x.pattern();
        check.due("a pattern of it", x.token(8), 0);
    }

    private static void useStrict(Check check, String text, int due) {
        check.due("token 8 of " + text, Check.begun(text).token(8), due);
    }

    private static void longestOnes(Check check, char quote) {
        check.sentence("Texts up to 2,000 bytes");
        TokenScanner x = Check.begun(quote + "z".repeat(1998) + quote);
        check.dueToken("1,998 units", x, 3, 0, 2000, 0, -1, 0, 0, 1998, 0);
        check.due("the last unit", x.unit(1997), (int) 'z');
        check.due("none behind it", Check.of(() -> x.unit(1998)), Check.INDEX);
        check.due("its quote is missing", Check.kinds(quote + "z".repeat(1999)), "!2000");
        check.due("333 escapes", Check.begun(quote + "\\u1234".repeat(333) + quote).token(2), 2000);
    }
}
