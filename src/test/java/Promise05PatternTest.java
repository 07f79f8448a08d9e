/** Promise 5: pattern makes a pattern from the / or /= on. */
public final class Promise05PatternTest {
    public static void main(String[] args) {
        Check check = new Check();
        bodies(check);
        flags(check);
        refusals(check);
        states(check);
        tokenAsPattern(check);
        check.done();
    }

    private static void units(Check check, String text, String want) {
        TokenScanner x = Check.begun(text);
        check.due("pattern of " + text, Check.of(x::pattern), 5);
        check.due("units of " + text, Check.units(x), want);
    }

    private static void bodies(Check check) {
        units(check, "/a/", "/a/");
        units(check, "/a/ g", "/a/");
        units(check, "/=/", "/=/");
        units(check, "/=a/+1", "/=a/");
        units(check, "/[/]/", "/[/]/");
        units(check, "/[[/]/", "/[[/]/");
        units(check, "/]/", "/]/");
        units(check, "/[]/]/x", "/[]/");
        units(check, "/\\//", "/\\//");
        units(check, "/\\[/]/", "/\\[/");
        units(check, "/[\\]/]/", "/[\\]/]/");
        units(check, "/[a]/b]/", "/[a]/b");
        units(check, "/\\\\/", "/\\\\/");
        units(check, "/a*'\"\u0000\u00ff\u00a0 \t/", "/a*'\"\u0000\u00ff\u00a0 \t/");
        units(check, "/(/", "/(/");
    }

    private static void flags(Check check) {
        units(check, "/a/gim", "/a/gim");
        units(check, "/a/gg9$_\u00aa\u00ff.b", "/a/gg9$_\u00aa\u00ff");
        units(check, "/a/0", "/a/0");
        units(check, "/a/\u00d7", "/a/");
        units(check, "/a//b/", "/a/");
        check.due("an escape behind it", Check.kindsWithPatterns("/a/\\u0067"), "!3");
        check.due("an escape behind letters", Check.kindsWithPatterns("/a/g\\u0067"), "!4");
        check.due("any backslash behind it", Check.kindsWithPatterns("/a/\\"), "!3");
        check.due("a blank before the escape", Check.kindsWithPatterns("/a/ \\u0067"), "51");
    }

    private static void refusals(Check check) {
        String[] pairs = {
            "/", "!1", "/a", "!2", "/=", "!2", "/a\n/", "!2", "/a\r/", "!2", "/\\\n/", "!2", "/\\", "!2", "/\\/", "!3",
            "/[/", "!3", "/[a\n]/", "!3", "/[\\\n]/", "!3", "/[\\", "!3", "/[\\]/", "!5", "x=/a", "14!4",
        };
        for (int k = 0; k < pairs.length; k += 2) {
            check.due("pattern of " + pairs[k], Check.kindsWithPatterns(pairs[k]), pairs[k + 1]);
        }
        TokenScanner x = Check.begun("/a");
        check.due("pattern", Check.of(x::pattern), Check.ARGUMENT);
        check.due("no token then", Check.of(() -> x.token(0)), Check.STATE);
        check.due("pattern then", Check.of(x::pattern), Check.STATE);
        check.due("the text is used up", x.begin(), 0);
    }

    private static void states(Check check) {
        for (String text : new String[] {"", "a", "1", "'/'", "=", "*", "%=", "//", "."}) {
            TokenScanner x = Check.begun(text);
            check.due("pattern where stands " + text, Check.of(x::pattern), Check.STATE);
            check.due("the token stays " + text, x.token(1), text.equals("//") ? 2 : 0);
        }
        TokenScanner x = Check.fed("/a/");
        check.due("pattern before begin", Check.of(x::pattern), Check.STATE);
        x.begin();
        x.pattern();
        check.due("pattern of a pattern", Check.of(x::pattern), Check.STATE);
        check.due("it stays", x.token(0), 5);
        x.end();
        check.due("pattern when it is ended", Check.of(x::pattern), Check.STATE);
    }

    private static void tokenAsPattern(Check check) {
        TokenScanner x = Check.begun("\n/=\\x/g=1");
        x.pattern();
        int[] due = {5, 1, 7, 1, -1, 0, 0, 6, 0};
        for (int what = 0; what < due.length; what++) {
            check.due("token " + what, x.token(what), due[what]);
        }
        check.due("next goes on behind it", x.next(), 4);
        check.due("sign", x.token(6), 30);
        check.due("no line ends before it", x.token(3), 0);
        TokenScanner sign = Check.begun("/=a/g");
        check.due("not asked for, the sign", sign.token(6), 52);
        check.due("goes on behind the sign", sign.next(), 1);
    }
}
