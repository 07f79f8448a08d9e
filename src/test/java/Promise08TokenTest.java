/** Promise 8: token tells nine things of a token. */
public final class Promise08TokenTest {
    private static final String[] WORDS = (
        "break case catch continue debugger default delete do else finally for function if in instanceof new return "
        + "switch this throw try typeof var void while with null true false class const enum export extends import super "
        + "implements interface let package private protected public static yield").split(" ");
    private static final String[] PLAIN_SIGNS = {
        "", "||", "&&", "|", "^", "&", "==", "!=", "===", "!==", "<", ">", "<=", ">=", "", "",
        "<<", ">>", ">>>", "+", "-", "*", "/", "%"
    };
    private static final String OTHER_SIGNS = "( ) [ ] { } . ; , ? : ! ~ ++ --";

    public static void main(String[] args) {
        Check check = new Check();
        wholeTokens(check);
        lineEnds(check);
        words(check);
        escapes(check);
        signs(check);
        useStrict(check);
        wrongOnes(check);
        check.done();
    }

    private static void token(Check check, TokenScanner x, int... due) {
        for (int what = 0; what < due.length; what++) {
            check.due("token " + what + " at " + due[1], x.token(what), due[what]);
        }
    }

    private static void wholeTokens(Check check) {
        TokenScanner x = Check.begun("  a1 var\n'x\\x41' 0x1F >>>= /a/g \r");
        token(check, x, 1, 2, 4, 0, -1, 0, 0, 2, 0);
        x.next();
        token(check, x, 1, 5, 8, 0, 22, 0, 0, 3, 0);
        x.next();
        token(check, x, 3, 9, 16, 1, -1, 1, 0, 2, 0);
        x.next();
        token(check, x, 2, 17, 21, 0, -1, 0, 0, 4, 0);
        x.next();
        token(check, x, 4, 22, 26, 0, -1, 0, 48, 0, 0);
        x.next();
        token(check, x, 4, 27, 28, 0, -1, 0, 22, 0, 0);
        x.pattern();
        token(check, x, 5, 27, 31, 0, -1, 0, 0, 4, 0);
        x.next();
        token(check, x, 0, 33, 33, 1, -1, 0, 0, 0, 0);
        token(check, Check.begun(""), 0, 0, 0, 0, -1, 0, 0, 0, 0);
        token(check, Check.begun("''"), 3, 0, 2, 0, -1, 0, 0, 0, 0);
    }

    private static void lineEnds(Check check) {
        String[] texts = {"a b", "a\nb", "a\rb", "a\r\nb", "a/*\n*/b", "a/*\r*/ b", "a/* */b", "a//\nb", "a \n\n b", "a\n/* */b", "a\u000b\fb", "'\\\n'b", "a\u0085", "a//x"};
        int[] due = {0, 1, 1, 1, 1, 1, 0, 1, 1, 1, 0, 0, -1, 0};
        for (int k = 0; k < texts.length; k++) {
            TokenScanner x = Check.begun(texts[k]);
            check.due("the first token of " + texts[k], x.token(3), 0);
            if (due[k] >= 0) {
                x.next();
                check.due("a line ends in " + texts[k], x.token(3), due[k]);
            }
        }
        TokenScanner x = Check.begun("\na b\n");
        check.due("before the first", x.token(3), 1);
        x.next();
        check.due("not before the second", x.token(3), 0);
        x.next();
        check.due("before the END", x.token(3), 1);
    }

    private static void words(Check check) {
        for (int k = 0; k < WORDS.length; k++) {
            String word = WORDS[k];
            check.due(word, Check.begun(word).token(4), k);
            check.due("kind of " + word, Check.begun(word).token(0), 1);
            check.due(word + " and more", Check.begun(word + "s_").token(4), -1);
            check.due(word + " in capitals", Check.begun(word.toUpperCase()).token(4), -1);
            check.due("the text " + word, Check.begun("'" + word + "'").token(4), -1);
            String escaped = String.format("\\u%04x", (int) word.charAt(0)) + word.substring(1);
            check.due(escaped, Check.begun(escaped).token(4), k);
            check.due(escaped + " has an escape", Check.begun(escaped).token(5), 1);
            String shorter = word.substring(0, word.length() - 1);
            if (!shorter.equals("d")) {
                check.due(shorter, Check.begun(shorter).token(4), -1);
            }
        }
        check.due("d", Check.begun("d").token(4), -1);
        check.due("i", Check.begun("i").token(4), -1);
    }

    private static void escapes(Check check) {
        String[] texts = {"a", "\\u0061", "'a'", "'\\a'", "'\\\n'", "'\\\r\n'", "'\\0'", "'\\''", "1", "+", ""};
        int[] due = {0, 1, 0, 1, 1, 1, 1, 1, 0, 0, 0};
        for (int k = 0; k < texts.length; k++) {
            check.due("an escape in " + texts[k], Check.begun(texts[k]).token(5), due[k]);
        }
        TokenScanner x = Check.begun("\\u0061 b");
        x.next();
        check.due("not in the one behind it", x.token(5), 0);
    }

    private static void signs(Check check) {
        for (int k = 1; k < PLAIN_SIGNS.length; k++) {
            String sign = PLAIN_SIGNS[k];
            if (!sign.isEmpty()) {
                sign(check, sign, k);
                if (k >= 3 && k <= 5 || k >= 16) {
                    sign(check, sign + "=", k + 30);
                }
            }
        }
        sign(check, "=", 30);
        String[] others = OTHER_SIGNS.split(" ");
        for (int k = 0; k < others.length; k++) {
            sign(check, others[k], 60 + k);
        }
        String[] runs = {"||=", "1 30 ", "&&=", "2 30 ", "|||", "1 3 ", "===!", "8 71 ", "====", "8 30 ", "!===", "9 30 ", "<<<", "16 10 ", ">>>>", "18 11 ", ">>>>=", "18 13 ", "+++", "73 19 ", "++=", "73 30 ", "---=", "74 50 ", "=>", "30 11 ", "**", "21 21 ", "?.", "69 66 ", "...", "66 66 66 ", "<!--", "10 71 74 ", "^^=", "4 34 ", "~=", "72 30 "};
        for (int k = 0; k < runs.length; k += 2) {
            check.due("signs of " + runs[k], signsOf(runs[k]), runs[k + 1]);
        }
    }

    private static void sign(Check check, String sign, int number) {
        TokenScanner x = Check.begun(sign + " a");
        check.due("sign " + sign, x.token(6), number);
        check.due("kind of " + sign, x.token(0), 4);
        check.due("behind " + sign, x.token(2), sign.length());
        check.due("alone " + sign, Check.begun(sign).token(6), number);
    }

    private static String signsOf(String text) {
        TokenScanner x = Check.fed(text);
        StringBuilder signs = new StringBuilder();
        for (int kind = x.begin(); kind != 0; kind = x.next()) {
            signs.append(x.token(6)).append(' ');
        }
        return signs.toString();
    }

    private static void useStrict(Check check) {
        String[] texts = {"'use strict'", "\"use strict\"", "'use\\x20strict'", "'use \\\nstrict'", "'use  strict'", "'use strict '", "'use stric'", "'use strict", "'Use strict'", "'use strics'", "'use\tstrict'", "'\\use strict'"};
        int[] due = {1, 1, 0, 0, 0, 0, 0, -1, 0, 0, 0, -1};
        for (int k = 0; k < texts.length; k++) {
            String text = texts[k];
            if (due[k] >= 0) {
                check.due(text, Check.begun(text).token(8), due[k]);
            } else {
                check.due(text, Check.of(() -> Check.begun(text)), Check.ARGUMENT);
            }
        }
    }

    private static void wrongOnes(Check check) {
        TokenScanner x = Check.begun("a");
        for (int what : new int[] {-1, 9, 10, Integer.MAX_VALUE, Integer.MIN_VALUE}) {
            check.due("token " + what, Check.of(() -> x.token(what)), Check.ARGUMENT);
        }
        check.due("the token stays", x.token(0), 1);
        x.end();
        for (int what = 0; what <= 8; what++) {
            int asked = what;
            check.due("token when it is ended", Check.of(() -> x.token(asked)), Check.STATE);
        }
        check.due("a wrong what without a token", Check.of(() -> x.token(9)), Check.ARGUMENT);
    }
}
