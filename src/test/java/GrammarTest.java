import java.util.regex.Matcher;
import java.util.regex.Pattern;

/**
 * Random texts, each told a second time by regular expressions written from the standard's grammar.
 * Of a refused text's place the expressions know nothing; that is held to what a place means: up
 * to there nothing is wrong, and with the byte there it is.
 */
public final class GrammarTest {
    private static final int TEXTS = 60_000;

    private static final String LETTER = "A-Za-z$_\u00aa\u00b5\u00ba\u00c0-\u00d6\u00d8-\u00f6\u00f8-\u00ff";
    private static final String HEX = "[0-9a-fA-F]";
    private static final String ESCAPE = "\\\\u" + HEX + "{4}";
    private static final Pattern SKIPPED = whole("(?:[\\t\\x0b\\f \\xa0\\n\\r]|//[^\\n\\r]*+|/\\*.*?\\*/)*+");
    private static final Pattern NAME = whole("(?:[" + LETTER + "]|" + ESCAPE + ")(?:[" + LETTER + "0-9]|" + ESCAPE + ")*+(?!\\\\)");
    private static final Pattern PLAIN_START = whole("[" + LETTER + "]");
    private static final Pattern PLAIN_PART = whole("[" + LETTER + "0-9]");
    private static final Pattern NUMBER = whole(
        "(?:0[xX]" + HEX + "++|(?:(?:0|[1-9][0-9]*+)(?:\\.[0-9]*+)?+|\\.[0-9]++)(?:[eE][+-]?[0-9]++)?+)(?![" + LETTER + "0-9\\\\])");
    private static final Pattern TEXT = whole(textIn("'") + "|" + textIn("\""));
    private static final Pattern PATTERN = whole(
        "/(?:[^\\n\\r\\[\\\\/]|\\\\[^\\n\\r]|\\[(?:[^\\n\\r\\]\\\\]|\\\\[^\\n\\r])*+\\])++/[" + LETTER + "0-9]*+(?!\\\\)");
    private static final Pattern SIGN = whole(
        ">>>=|>>>|>>=|<<=|===|!==|<<|>>|<=|>=|==|!=|&&|\\|\\||\\+\\+|--|[-+*/%&|^]=|[-+*/%&|^<>=!~?:;,.(){}\\[\\]]");

    private static Pattern whole(String expression) {
        return Pattern.compile(expression, Pattern.DOTALL);
    }

    private static String textIn(String quote) {
        String escape = "\\\\(?:\\r\\n|[^xu0-9]|0(?![0-9])|x" + HEX + "{2}|u" + HEX + "{4})";
        return quote + "(?:[^" + quote + "\\\\\\n\\r]|" + escape + ")*+" + quote;
    }

    public static void main(String[] args) {
        Check check = new Check();
        RandomTexts texts = new RandomTexts();
        for (int k = 0; k < TEXTS; k++) {
            String text = texts.text();
            boolean patterns = texts.below(2) == 0;
            String got = scanned(text, patterns);
            int refusal = got.indexOf('!');
            check.due("tokens of " + shown(text), refusal < 0 ? got : got.substring(0, refusal + 1), parsed(text, patterns));
            if (refusal >= 0) {
                place(check, text, patterns, Integer.parseInt(got.substring(refusal + 1)));
            }
        }
        check.done();
    }

    private static void place(Check check, String text, boolean patterns, int place) {
        String before = scanned(text.substring(0, place), patterns);
        int refusal = before.indexOf('!');
        check.due("nothing wrong before " + place + " of " + shown(text), refusal < 0 || Integer.parseInt(before.substring(refusal + 1)) == place, true);
        // A backslash is told for an escape that gives no unit, which is wrong by what is behind it.
        if (place < text.length() && text.charAt(place) != '\\') {
            String with = scanned(text.substring(0, place + 1), patterns);
            check.due("wrong with the byte at " + place + " of " + shown(text), with.substring(with.indexOf('!') + 1), place);
        }
    }

    private static String scanned(String text, boolean patterns) {
        TokenScanner x = Check.fed(text);
        StringBuilder tokens = new StringBuilder();
        try {
            int kind = x.begin();
            while (kind != 0) {
                if (patterns && (x.token(6) == 22 || x.token(6) == 52)) {
                    kind = x.pattern();
                }
                tokens.append(kind).append(':').append(x.token(1)).append('-').append(x.token(2)).append(x.token(3) == 1 ? "n " : " ");
                kind = x.next();
            }
            tokens.append("END").append(x.token(1)).append(x.token(3) == 1 ? "n" : "");
        } catch (IllegalArgumentException e) {
            tokens.append('!').append(x.place());
        }
        return tokens.toString();
    }

    private static String parsed(String text, boolean patterns) {
        StringBuilder tokens = new StringBuilder();
        int at = 0;
        while (true) {
            int from = behind(SKIPPED, text, at);
            String skipped = text.substring(at, from);
            String line = skipped.indexOf('\n') >= 0 || skipped.indexOf('\r') >= 0 ? "n" : "";
            if (from == text.length()) {
                return tokens.append("END").append(from).append(line).toString();
            }
            int kind = kindAt(text, from, patterns);
            at = kind < 0 ? -1 : behind(expressionOf(kind), text, from);
            if (at < 0 || kind == 1 && !unitsFit(text.substring(from, at))) {
                return tokens.append('!').toString();
            }
            tokens.append(kind).append(':').append(from).append('-').append(at).append(line).append(' ');
        }
    }

    private static int kindAt(String text, int at, boolean patterns) {
        String rest = text.substring(at);
        if (rest.startsWith("/*")) {
            return -1;
        }
        if (rest.startsWith("/") && patterns) {
            return 5;
        }
        if (rest.matches("(?s)(?:\\.?[0-9]).*")) {
            return 2;
        }
        if (rest.matches("(?s)['\"].*")) {
            return 3;
        }
        return rest.matches("(?s)[" + LETTER + "\\\\].*") ? 1 : 4;
    }

    private static Pattern expressionOf(int kind) {
        return new Pattern[] {SKIPPED, NAME, NUMBER, TEXT, SIGN, PATTERN}[kind];
    }

    private static int behind(Pattern expression, String text, int at) {
        Matcher matcher = expression.matcher(text).region(at, text.length()).useTransparentBounds(true);
        return matcher.lookingAt() ? matcher.end() : -1;
    }

    private static boolean unitsFit(String name) {
        for (int k = 0, n = 0; k < name.length(); n++) {
            boolean escape = name.charAt(k) == '\\';
            String unit = escape ? "" + (char) Integer.parseInt(name.substring(k + 2, k + 6), 16) : name.substring(k, k + 1);
            if (!(n == 0 ? PLAIN_START : PLAIN_PART).matcher(unit).matches()) {
                return false;
            }
            k += escape ? 6 : 1;
        }
        return true;
    }

    private static String shown(String text) {
        return text.replace("\n", "<LF>").replace("\r", "<CR>");
    }
}
