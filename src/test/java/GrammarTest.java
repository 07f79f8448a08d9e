/**
 * Random texts, each told a second time by the grammar. The place of a refused text is held to
 * what a place means: up to there nothing is wrong, and with the byte there it is.
 */
public final class GrammarTest {
    private static final int TEXTS = 60_000;

    public static void main(String[] args) {
        Check check = new Check();
        RandomTexts texts = new RandomTexts();
        for (int k = 0; k < TEXTS; k++) {
            String text = texts.text();
            boolean patterns = texts.below(2) == 0;
            String got = scanned(text, patterns);
            int refusal = got.indexOf('!');
            check.due("tokens of " + text, refusal < 0 ? got : got.substring(0, refusal + 1), told(text, patterns));
            if (refusal >= 0) {
                place(check, text, patterns, Integer.parseInt(got.substring(refusal + 1)));
            }
        }
        check.done();
    }

    private static void place(Check check, String text, boolean patterns, int place) {
        String before = scanned(text.substring(0, place), patterns);
        int refusal = before.indexOf('!');
        check.due("nothing wrong before " + place + " of " + text, refusal < 0 || Integer.parseInt(before.substring(refusal + 1)) == place, true);
        // A backslash is told for an escape that gives no unit, which is wrong by what is behind it.
        if (place < text.length() && text.charAt(place) != '\\') {
            String with = scanned(text.substring(0, place + 1), patterns);
            check.due("wrong with the byte at " + place + " of " + text, with.substring(with.indexOf('!') + 1), place);
        }
    }

    private static String scanned(String text, boolean patterns) {
        TokenScanner x = Check.fed(text);
        StringBuilder tokens = new StringBuilder();
        try {
            int kind = x.begin();
            while (kind != 0) {
                if (patterns && (x.token(6) == 22 || x.token(6) == 52)) {
                    kind = x.pattern();
                }
                tokens.append(places(kind, x.token(1), x.token(2), x.token(3)));
                kind = x.next();
            }
            tokens.append(places(kind, x.token(1), x.token(2), x.token(3)));
        } catch (IllegalArgumentException e) {
            tokens.append('!').append(x.place());
        }
        return tokens.toString();
    }

    private static String told(String text, boolean patterns) {
        StringBuilder tokens = new StringBuilder();
        Grammar.Told token = Grammar.tokenBehind(text, 0);
        while (token != null) {
            if (patterns && (token.sign() == 22 || token.sign() == 52)) {
                token = Grammar.patternAt(text, token);
            }
            if (token != null) {
                tokens.append(places(token.kind(), token.first(), token.behind(), token.what(3)));
                if (token.kind() == 0) {
                    return tokens.toString();
                }
                token = Grammar.tokenBehind(text, token.behind());
            }
        }
        return tokens.append('!').toString();
    }

    private static String places(int kind, int first, int behind, int line) {
        return kind + ":" + first + "-" + behind + (line == 1 ? "n " : " ");
    }
}
