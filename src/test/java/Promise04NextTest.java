/** Promise 4: next, and with it the language itself: what is a token, and where a text is refused. */
public final class Promise04NextTest {
    public static void main(String[] args) {
        Check check = new Check();
        states(check);
        blanksAndComments(check);
        names(check);
        numbers(check);
        texts(check);
        others(check);
        check.done();
    }

    private static void kinds(Check check, String... pairs) {
        for (int k = 0; k < pairs.length; k += 2) {
            check.due("kinds of " + pairs[k], Check.kinds(pairs[k]), pairs[k + 1]);
        }
    }

    private static void states(Check check) {
        TokenScanner x = Check.begun("a # b");
        check.due("next that is refused", Check.of(x::next), Check.ARGUMENT);
        check.due("next then", Check.of(x::next), Check.STATE);
        check.due("no token", Check.of(() -> x.token(0)), Check.STATE);
        check.due("the text is used up", x.begin(), 0);
        check.due("next at the END", Check.of(x::next), Check.STATE);
        check.due("the END stays", x.token(0), 0);
        x.end();
        check.due("next when it is ended", Check.of(x::next), Check.STATE);
        Check.feed(x, "a");
        check.due("next before begin", Check.of(x::next), Check.STATE);
        check.due("begin", x.begin(), 1);
        check.due("next to the END", x.next(), 0);
    }

    private static void blanksAndComments(Check check) {
        kinds(check,
            "a\t\u000b\f \u00a0b", "11", "a\nb\rc\r\nd", "1111",
            "a//b\nc", "11", "a//b\rc", "11", "//", "", "a//", "1", "a///**\nb", "11",
            "/**/a", "1", "/***/a", "1", "/*/ */a", "1", "a/* // */b", "11", "/*\u0000\u00ff\\'\"*/", "",
            "/* /* */ */", "44", "a/*b", "1!4", "/*", "!2", "/* *", "!4", "/*/", "!3", "/*\n", "!3",
            "a/b", "141", "a/ /b", "1441", "<!--a", "4441");
    }

    private static void names(Check check) {
        kinds(check,
            "$ _ $0 _9 aZ", "11111", "\u00aa\u00b5\u00ba\u00c0\u00d6\u00d8\u00f6\u00f8\u00ff", "1",
            "a#", "1!1", "@", "!0", "`", "!0", "\u0000", "!0", "\u007f", "!0", "\u0080", "!0",
            "a\u00a9", "1!1", "\u00ab", "!0", "\u00b2", "!0", "\u00b7", "!0", "\u00bf", "!0", "\u00d7", "!0", "a\u00f7", "1!1", "\u0085", "!0", "\u00ad", "!0",
            "\\u0061\\u0062c\\u0030", "1", "\\u00AA\\u00ff\\u0024\\u005F", "1",
            "\\u0030", "!0", "a\\u0030", "1", "ab\\u0020", "!2", "ab \\u002e", "1!3", "\\u005c", "!0", "a\\u00d7", "!1", "\\u0100", "!0", "a\\u0261", "!1", "a\\uffff", "!1",
            "\\", "!1", "a\\", "!2", "\\x61", "!1", "a\\\\", "!2", "\\U0061", "!1", "\\u", "!2", "\\u006", "!5", "\\u006g", "!5", "\\u{61}", "!2", "a\\u00 1", "!5", "\\u0061\\u00\n", "!10");
        for (int c = 0; c < 256; c++) {
            boolean letter = c >= 'a' && c <= 'z' || c >= 'A' && c <= 'Z' || c == '$' || c == '_' || c == 170 || c == 181 || c == 186 || c >= 192 && c <= 214 || c >= 216 && c <= 246 || c >= 248;
            boolean digit = c >= '0' && c <= '9';
            String escape = String.format("\\u%04x", c);
            check.due("a name of " + escape, Check.kinds(escape), letter ? "1" : "!0");
            check.due("a name with " + escape, Check.kinds("a" + escape), letter || digit ? "1" : "!1");
            if (letter) {
                check.due("a name of unit " + c, Check.kinds("" + (char) c), "1");
            }
        }
    }

    private static void numbers(Check check) {
        kinds(check,
            "0 1 19 0.5 .5 5. 0. 1e5 1E+5 1.e-5 .5e0 0e0 00", "222222222222!45",
            "0x0 0XaF 0x0123456789abcdefABCDEF", "222", "1.5.5", "22", "1..a", "241", "1.+.1", "242", "a.5", "12", "a.b", "141", "...5", "442", "0x1.5", "22", "1e1.5", "22",
            "01", "!1", "08", "!1", "00.5", "!1", "0_", "!1", "0b1", "!1", "0o7", "!1",
            "3in", "!1", "3 in", "21", "1.a", "!2", "1.5x", "!3", "1e5e", "!3", "0x1g", "!3", "1$", "!1", "1\u00aa", "!1", "1\u00d7", "2!1", "1\\u0061", "!1", "1\\", "!1", "1_0", "!1",
            "0x", "!2", "0xg", "!2", "0x.", "!2", "0X ", "!2", "1e", "!2", "1ex", "!2", "1e+", "!3", "1e-x", "!3", "1e++1", "!3", "1.e", "!3", ".5e ", "!3", "1e.5", "!2",
            "1'a'", "23", "1/2", "242", "1\n2", "22", "0\r", "2");
    }

    private static void texts(Check check) {
        kinds(check,
            "''", "3", "\"\"", "3", "'\"'\"'\"", "33", "'a'b", "31", "'\\''", "3", "\"\\\"\"", "3", "'\\\\'", "3", "'\u0000\u0085\u00a0\u00ff'", "3", "'//'", "3", "'\t'", "3",
            "'", "!1", "'a", "!2", "'a\"", "!3", "'a\nb'", "!2", "'a\rb'", "!2", "\"\n", "!1", "'\\", "!2", "'\\'", "!3",
            "'\\\n'", "3", "'\\\r'", "3", "'\\\r\n'", "3", "'\\\n\r'", "!3", "'\\\n\n'", "!3", "'\\\r\r'", "!3", "'\\\r\n\n'", "!4", "'\\\n", "!3", "'\\\r\n", "!4",
            "'\\0'", "3", "'\\0a'", "3", "'\\00'", "!3", "'\\08'", "!3", "'\\09'", "!3", "'\\1'", "!2", "'\\7'", "!2", "'\\8'", "!2", "'\\9'", "!2", "'\\0\\1'", "!4",
            "'\\x41'", "3", "'\\x4'", "!4", "'\\x'", "!3", "'\\xg0'", "!3", "'\\x4", "!4", "'\\X41'", "3",
            "'\\u0041'", "3", "'\\uFFFF'", "3", "'\\u004'", "!6", "'\\u00g0'", "!5", "'\\u{41}'", "!3", "'\\u004\n'", "!6", "'\\u", "!3", "'\\u0041", "!7");
    }

    private static void others(Check check) {
        kinds(check,
            "({[]})", "444444", "a=b", "141", "#!", "!0", "a;\u00d7", "14!2",
            "x=/[/]/", "1444444", "'a'#", "3!3");
    }
}
