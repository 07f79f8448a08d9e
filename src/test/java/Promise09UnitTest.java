/** Promise 9: unit tells a token's units one by one. */
public final class Promise09UnitTest {
    public static void main(String[] args) {
        Check check = new Check();
        units(check);
        everyEscape(check);
        wrongOnes(check);
        check.done();
    }

    private static void units(Check check) {
        String[] pairs = {
            "ab1", "ab1", "a\\u0062\\u0031", "ab1", "v\\u0061r", "var", "while", "while", "\u00aa\u00ff", "\u00aa\u00ff",
            "'ab'", "ab", "\"'\"", "'", "'\\''", "'", "''", "", "'a\\\nb'", "ab", "'a\\\r\nb\\\rc'", "abc",
            "'\\x41\\xfF'", "A\u00ff", "'\\u0041\\u00e9'", "A\u00e9", "'\\u1234\\uFFFF'", "\u1234\uffff", "'\\u000a'", "\n", "'\\0'", "\0", "'\\0a\\0'", "\0a\0",
            "0x1F", "0x1F", "1.50e+3", "1.50e+3", ".5", ".5", "5.", "5.",
            "+", "", "/", "", "", "", ";", "",
        };
        for (int k = 0; k < pairs.length; k += 2) {
            check.due("units of " + pairs[k], Check.units(Check.begun(pairs[k])), pairs[k + 1]);
        }
    }

    private static void everyEscape(Check check) {
        String letters = "bfnrtv";
        String stands = "\b\f\n\r\t\u000b";
        for (int c = 0; c < 256; c++) {
            boolean special = c >= '0' && c <= '9' || c == 'x' || c == 'u' || c == 10 || c == 13;
            if (!special) {
                int at = letters.indexOf(c);
                TokenScanner x = Check.begun("'\\" + (char) c + "'");
                check.due("the escape of " + c, Check.units(x), at >= 0 ? stands.charAt(at) : (char) c);
            }
            boolean plain = c != '\'' && c != '\\' && c != 10 && c != 13;
            if (plain) {
                check.due("the unit " + c, Check.begun("'" + (char) c + "'").unit(0), c);
            }
        }
    }

    private static void wrongOnes(Check check) {
        TokenScanner x = Check.begun("'ab'+");
        for (int i : new int[] {-1, 2, 3, 2000, Integer.MAX_VALUE, Integer.MIN_VALUE}) {
            check.due("unit " + i, Check.of(() -> x.unit(i)), Check.INDEX);
        }
        x.next();
        check.due("a sign's unit", Check.of(() -> x.unit(0)), Check.INDEX);
        x.next();
        check.due("the END's unit", Check.of(() -> x.unit(0)), Check.INDEX);
        x.end();
        check.due("unit when it is ended", Check.of(() -> x.unit(0)), Check.STATE);
        check.due("a wrong unit when it is ended", Check.of(() -> x.unit(-1)), Check.STATE);
    }
}
