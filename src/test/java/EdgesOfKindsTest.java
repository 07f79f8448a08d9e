/** The edges of the sentences under KINDS and SIGNS. */
public final class EdgesOfKindsTest {
    // The signs by their numbers; an empty one where the document has no such number.
    private static final String[] SIGNS = {
        "", "||", "&&", "|", "^", "&", "==", "!=", "===", "!==", "<", ">", "<=", ">=", "", "",
        "<<", ">>", ">>>", "+", "-", "*", "/", "%", "", "", "", "", "", "",
        "=", "", "", "|=", "^=", "&=", "", "", "", "", "", "", "", "", "", "",
        "<<=", ">>=", ">>>=", "+=", "-=", "*=", "/=", "%=", "", "", "", "", "", "",
        "(", ")", "[", "]", "{", "}", ".", ";", ",", "?", ":", "!", "~", "++", "--",
    };

    public static void main(String[] args) {
        Check check = new Check();
        ends(check);
        unitsOfKinds(check);
        everySign(check);
        thirtyMore(check);
        longest(check);
        noSigns(check);
        othersHaveNoSign(check);
        check.done();
    }

    private static void ends(Check check) {
        check.sentence("0 END (behind the last token)");
        String[] texts = {"", " ", "\n", "//", "/**/", "//a\n", "/*\n*/ "};
        int[] lines = {0, 0, 1, 0, 0, 1, 1};
        for (int k = 0; k < texts.length; k++) {
            int size = texts[k].length();
            TokenScanner x = Check.fed(texts[k]);
            check.due("begin of " + texts[k], Check.of(x::begin), 0);
            check.dueToken("the END of " + texts[k], x, 0, size, size, lines[k], -1, 0, 0, 0, 0);
            check.due("next there", Check.of(x::next), Check.STATE);
            check.dueToken("it stays", x, 0, size, size, lines[k], -1, 0, 0, 0, 0);
        }
        for (String last : new String[] {"a", "1", "'a'", "+"}) {
            TokenScanner x = Check.begun(last);
            check.due("next behind " + last, Check.of(x::next), 0);
            check.dueToken("the END", x, 0, last.length(), last.length(), 0, -1, 0, 0, 0, 0);
        }
        TokenScanner x = Check.begun("/a/");
        x.pattern();
        check.due("next behind a pattern", Check.of(x::next), 0);
        check.dueToken("the END", x, 0, 3, 3, 0, -1, 0, 0, 0, 0);
    }

    private static void unitsOfKinds(Check check) {
        check.sentence("A token's units: of a name those it is of, of a text those it stands for, of a number and a pattern those of its bytes; of others none");
        check.dueUnits("a\\u0062", "ab", "'a\\x62'", "ab", "0X1f", "0X1f", "1.e+05", "1.e+05", "", "", "/", "", "/=", "", ">>>=", "", ";", "");
        TokenScanner x = Check.begun("/\\x62/g");
        x.pattern();
        check.due("units of a pattern", Check.units(x), "/\\x62/g");
        for (String none : new String[] {"", "+", "/", ">>>="}) {
            check.due("unit 0 of " + none, Check.of(() -> Check.begun(none).unit(0)), Check.INDEX);
        }
    }

    private static void everySign(Check check) {
        check.sentence("SIGNS: 1 || .. 74 --");
        check.due("the last number", SIGNS.length - 1, 74);
        for (int n = 0; n < SIGNS.length; n++) {
            String sign = SIGNS[n];
            if (!sign.isEmpty()) {
                check.dueToken(sign, Check.begun(sign), 4, 0, sign.length(), 0, -1, 0, n, 0, 0);
                check.due(sign + " between names", signsOf("a" + sign + "a"), "0 " + n + " 0 ");
            }
        }
    }

    private static void thirtyMore(Check check) {
        check.sentence("30 more for 3 to 5 and 16 to 23 with = behind them");
        for (int n = 1; n < SIGNS.length; n++) {
            String sign = SIGNS[n];
            boolean more = n >= 3 && n <= 5 || n >= 16 && n <= 23;
            // = behind these is told by a number of its own: = == ! != < >.
            boolean own = n == 30 || n == 6 || n == 7 || n == 71 || n == 10 || n == 11;
            if (!sign.isEmpty() && !own) {
                check.due(sign + " with = behind it", signsOf(sign + "="), more ? (n + 30) + " " : n + " 30 ");
                check.due(sign + " with a blank and = behind it", signsOf(sign + " ="), n + " 30 ");
            }
        }
        check.due("= with = behind it", signsOf("= =="), "30 6 ");
        check.due("! with = behind it", signsOf("! != !=="), "71 7 9 ");
        check.due("< and > with = behind them", signsOf("<= >="), "12 13 ");
    }

    private static void longest(Check check) {
        check.sentence("Of several the longest");
        for (int n = 1; n < SIGNS.length; n++) {
            for (int m = 1; m < SIGNS.length; m++) {
                String both = SIGNS[n] + SIGNS[m];
                boolean comment = both.contains("//") || both.contains("/*");
                if (!SIGNS[n].isEmpty() && !SIGNS[m].isEmpty() && !comment) {
                    check.due("signs of " + both, signsOf(both), longestOf(both));
                }
            }
        }
        String[] runs = {"===", "8 ", "====", "8 30 ", "!====", "9 6 ", "<<<=", "16 12 ", ">>>>>", "18 17 ", ">>>>>=", "18 47 ", "+++++", "73 73 19 ", "|||=", "1 33 ", "&&&&", "2 2 "};
        for (int k = 0; k < runs.length; k += 2) {
            check.due("signs of " + runs[k], signsOf(runs[k]), runs[k + 1]);
        }
    }

    private static String longestOf(String text) {
        StringBuilder numbers = new StringBuilder();
        for (int at = 0; at < text.length();) {
            int longest = 0;
            for (int n = 1; n < SIGNS.length; n++) {
                if (text.startsWith(SIGNS[n], at) && SIGNS[n].length() > SIGNS[longest].length()) {
                    longest = n;
                }
            }
            numbers.append(longest).append(' ');
            at += SIGNS[longest].length();
        }
        return numbers.toString();
    }

    private static void noSigns(Check check) {
        check.sentence("REFUSED: the byte that can't stand there: one that begins no token");
        for (int c = 0; c < 256; c++) {
            boolean sign = c != 0 && "|^&=!<>+-*/%()[]{}.;,?:~".indexOf(c) >= 0;
            boolean blank = c == 9 || c == 11 || c == 12 || c == 32 || c == 160 || Check.isLineEnd(c);
            boolean other = Check.isLetter(c) || Check.isDigit(c) || c == '\'' || c == '"' || c == '\\' || blank;
            if (!other) {
                check.due("the byte " + c, Check.kinds("" + (char) c), sign ? "4" : "!0");
                check.due("a blank and the byte " + c, Check.kinds(" " + (char) c), sign ? "4" : "!1");
                check.due("a name and the byte " + c, Check.kinds("a" + (char) c), sign ? "14" : "1!1");
            }
        }
    }

    private static void othersHaveNoSign(Check check) {
        check.sentence("6 its sign (0 for none)");
        for (String text : new String[] {"", "a", "if", "1", ".5", "'+'"}) {
            check.due("the sign of " + text, Check.begun(text).token(6), 0);
        }
        TokenScanner x = Check.begun("/=a/+b");
        x.pattern();
        check.due("the sign of a pattern", x.token(6), 0);
        x.next();
        check.due("the sign behind it", x.token(6), 19);
        x.next();
        check.due("the sign of the name behind a sign", x.token(6), 0);
        x.next();
        check.due("the sign of the END", x.token(6), 0);
    }

    private static String signsOf(String text) {
        TokenScanner x = Check.fed(text);
        StringBuilder signs = new StringBuilder();
        try {
            for (int kind = x.begin(); kind != 0; kind = x.next()) {
                signs.append(x.token(6)).append(' ');
            }
        } catch (IllegalArgumentException e) {
            signs.append('!').append(x.place());
        }
        return signs.toString();
    }
}
