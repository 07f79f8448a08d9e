import java.util.Arrays;
import java.util.List;
import java.util.regex.MatchResult;
import java.util.regex.Matcher;
import java.util.regex.Pattern;

/**
 * The language told a second time, by regular expressions written from the standard's grammar.
 * Of the place where a text is refused they know nothing.
 */
final class Grammar {
    /** A token as the document tells it. */
    record Told(int kind, int first, int behind, boolean lineEndsBefore, int word, boolean escaped, int sign, String units, boolean useStrict) {
        /** What token(what) is to answer. */
        int what(int what) {
            int[] answers = {kind, first, behind, lineEndsBefore ? 1 : 0, word, escaped ? 1 : 0, sign, units.length(), useStrict ? 1 : 0};
            return answers[what];
        }
    }

    private static final String LETTER = "A-Za-z$_\u00aa\u00b5\u00ba\u00c0-\u00d6\u00d8-\u00f6\u00f8-\u00ff";
    private static final String HEX = "[0-9a-fA-F]";
    private static final String ESCAPE = "\\\\u" + HEX + "{4}";
    private static final Pattern SKIPPED = whole("(?:[\\t\\x0b\\f \\xa0\\n\\r]|//[^\\n\\r]*+|/\\*.*?\\*/)*+");
    private static final Pattern NAME = whole("(?:[" + LETTER + "]|" + ESCAPE + ")(?:[" + LETTER + "0-9]|" + ESCAPE + ")*+(?!\\\\)");
    private static final Pattern UNITS_OF_NAME = whole("[" + LETTER + "][" + LETTER + "0-9]*");
    private static final Pattern NUMBER = whole(
        "(?:0[xX]" + HEX + "++|(?:(?:0|[1-9][0-9]*+)(?:\\.[0-9]*+)?+|\\.[0-9]++)(?:[eE][+-]?[0-9]++)?+)(?![" + LETTER + "0-9\\\\])");
    private static final Pattern TEXT = whole(textIn("'") + "|" + textIn("\""));
    private static final Pattern PATTERN = whole(
        "/(?:[^\\n\\r\\[\\\\/]|\\\\[^\\n\\r]|\\[(?:[^\\n\\r\\]\\\\]|\\\\[^\\n\\r])*+\\])++/[" + LETTER + "0-9]*+(?!\\\\)");
    private static final Pattern SIGN = whole(
        ">>>=|>>>|>>=|<<=|===|!==|<<|>>|<=|>=|==|!=|&&|\\|\\||\\+\\+|--|[-+*/%&|^]=|[-+*/%&|^<>=!~?:;,.(){}\\[\\]]");
    private static final Pattern ANY_ESCAPE = whole("\\\\(?:\\r\\n|\\n|\\r|x(" + HEX + "{2})|u(" + HEX + "{4})|(.))");

    private static final List<String> WORDS = Arrays.asList((
        "break case catch continue debugger default delete do else finally for function if in instanceof new return "
        + "switch this throw try typeof var void while with null true false class const enum export extends import super "
        + "implements interface let package private protected public static yield").split(" "));
    private static final List<String> SIGNS = Arrays.asList((
        "_ || && | ^ & == != === !== < > <= >= _ _ << >> >>> + - * / % _ _ _ _ _ _ "
        + "= _ _ |= ^= &= _ _ _ _ _ _ _ _ _ _ <<= >>= >>>= += -= *= /= %= _ _ _ _ _ _ "
        + "( ) [ ] { } . ; , ? : ! ~ ++ --").split(" "));

    private static Pattern whole(String expression) {
        return Pattern.compile(expression, Pattern.DOTALL);
    }

    private static String textIn(String quote) {
        String escape = "\\\\(?:\\r\\n|[^xu0-9]|0(?![0-9])|x" + HEX + "{2}|u" + HEX + "{4})";
        return quote + "(?:[^" + quote + "\\\\\\n\\r]|" + escape + ")*+" + quote;
    }

    /** The token that stands behind the place; null where it is refused. */
    static Told tokenBehind(String text, int place) {
        int first = behind(SKIPPED, text, place);
        String skipped = text.substring(place, first);
        boolean line = skipped.indexOf('\n') >= 0 || skipped.indexOf('\r') >= 0;
        if (first == text.length()) {
            return new Told(0, first, first, line, -1, false, 0, "", false);
        }
        String rest = text.substring(first);
        if (rest.startsWith("/*")) {
            return null;
        }
        return tokenAt(text, first, line, kindOf(rest));
    }

    /** The pattern that begins where the token does; null where it is refused. */
    static Told patternAt(String text, Told slash) {
        return tokenAt(text, slash.first(), slash.lineEndsBefore(), 5);
    }

    private static int kindOf(String rest) {
        if (rest.matches("(?s)(?:\\.?[0-9]).*")) {
            return 2;
        }
        if (rest.matches("(?s)['\"].*")) {
            return 3;
        }
        return rest.matches("(?s)[" + LETTER + "\\\\].*") ? 1 : 4;
    }

    private static Told tokenAt(String text, int first, boolean line, int kind) {
        Pattern expression = new Pattern[] {SKIPPED, NAME, NUMBER, TEXT, SIGN, PATTERN}[kind];
        int behind = behind(expression, text, first);
        if (behind < 0) {
            return null;
        }
        String bytes = text.substring(first, behind);
        String units = unitsOf(kind, bytes);
        if (kind == 1 && !UNITS_OF_NAME.matcher(units).matches()) {
            return null;
        }
        boolean escaped = (kind == 1 || kind == 3) && bytes.indexOf('\\') >= 0;
        boolean useStrict = kind == 3 && bytes.substring(1, bytes.length() - 1).equals("use strict");
        return new Told(kind, first, behind, line, kind == 1 ? WORDS.indexOf(units) : -1, escaped, kind == 4 ? SIGNS.indexOf(bytes) : 0, units, useStrict);
    }

    private static String unitsOf(int kind, String bytes) {
        switch (kind) {
            case 1: return ANY_ESCAPE.matcher(bytes).replaceAll(Grammar::unitOf);
            case 3: return ANY_ESCAPE.matcher(bytes.substring(1, bytes.length() - 1)).replaceAll(Grammar::unitOf);
            case 4: return "";
            default: return bytes;
        }
    }

    private static String unitOf(MatchResult escape) {
        String unit = "";
        for (int hex = 1; hex <= 2; hex++) {
            if (escape.group(hex) != null) {
                unit = "" + (char) Integer.parseInt(escape.group(hex), 16);
            }
        }
        if (escape.group(3) != null) {
            int at = "0btnvfr".indexOf(escape.group(3));
            unit = at < 0 ? escape.group(3) : "\0\b\t\n\u000b\f\r".substring(at, at + 1);
        }
        return Matcher.quoteReplacement(unit);
    }

    private static int behind(Pattern expression, String text, int at) {
        Matcher matcher = expression.matcher(text).region(at, text.length()).useTransparentBounds(true);
        return matcher.lookingAt() ? matcher.end() : -1;
    }
}
