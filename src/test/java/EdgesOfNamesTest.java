import java.util.List;

/** The edges of the sentences on names, their escapes and words (TOKENS, WORDS). */
public final class EdgesOfNamesTest {
    private static final String[] WORDS = (
        "break case catch continue debugger default delete do else finally for function if in instanceof new return "
        + "switch this throw try typeof var void while with null true false class const enum export extends import super "
        + "implements interface let package private protected public static yield").split(" ");

    public static void main(String[] args) {
        Check check = new Check();
        letters(check);
        digits(check);
        escapes(check);
        brokenEscapes(check);
        words(check);
        wordsWithEscapes(check);
        nearWords(check);
        longestOnes(check);
        check.done();
    }

    private static void letters(Check check) {
        check.sentence("Names have letters A .. Z, a .. z, $ and _, 170, 181, 186, 192 .. 214, 216 .. 246, 248 .. 255");
        for (int c = 0; c < 256; c++) {
            String got = Check.of(Check.fed("" + (char) c)::begin);
            check.due("a name begins with " + c, got.equals("1"), Check.isLetter(c));
            if (Check.isLetter(c)) {
                check.due("its unit", Check.begun("" + (char) c).unit(0), c);
            }
        }
        check.sentence("the first ones beyond the letters are none");
        int[] beyond = {'A' - 1, 'Z' + 1, 'a' - 1, 'z' + 1, '$' - 1, '_' + 1, 169, 171, 180, 182, 185, 187, 191, 215, 247};
        for (int c : beyond) {
            check.due("a name begins with " + c, Check.of(Check.fed("" + (char) c)::begin).equals("1"), false);
            check.due("a name goes on with " + c, Check.begun("a" + (char) c).token(2), 1);
        }
    }

    private static void digits(Check check) {
        check.sentence("then also digits");
        for (int c = 0; c < 256; c++) {
            if (c != '\\') {
                boolean goesOn = Check.isLetter(c) || Check.isDigit(c);
                check.due("a name goes on with " + c, Check.begun("a" + (char) c).token(2), goesOn ? 2 : 1);
            }
        }
        check.dueKinds("0a", "!1", "a0", "1", "$0", "1", "_9", "1", "\u00ff0", "1", "a9.", "14");
    }

    private static void escapes(Check check) {
        check.sentence("an escape (backslash) uXXXX in a name must give such a unit");
        for (int c = 0; c <= 0x300; c++) {
            oneEscape(check, c);
        }
        for (int c : new int[] {0x0fff, 0x1000, 0x1061, 0x2028, 0x6100, 0x7fff, 0x8000, 0xff41, 0xffff}) {
            oneEscape(check, c);
        }
        check.dueUnits("\\u00AA", "\u00aa", "\\u00aA", "\u00aa", "\\u00fF\\u0024", "\u00ff$", "a\\u0030\\u0039", "a09");
        check.dueKinds("\\u0030a", "!0", "\\u0061\\u0030", "1", "\\u0061\\u0020", "!6", "b \\u005c", "1!2");
    }

    private static void oneEscape(Check check, int unit) {
        String escape = Check.escape(unit);
        check.due("a name of " + escape, Check.kinds(escape), Check.isLetter(unit) ? "1" : "!0");
        boolean goesOn = Check.isLetter(unit) || Check.isDigit(unit);
        check.due("a name with " + escape, Check.kinds("ab" + escape + "c"), goesOn ? "1" : "!2");
        if (goesOn) {
            TokenScanner x = Check.begun("ab" + escape + "c");
            check.dueToken(escape, x, 1, 0, 9, 0, -1, 1, 0, 4, 0);
            check.due("the unit of " + escape, x.unit(2), unit);
        }
    }

    private static void brokenEscapes(Check check) {
        String whole = "\\u0061";
        check.sentence("REFUSED: the text's end where something is missing there: in a name's escape");
        for (int length = 1; length < whole.length(); length++) {
            String part = whole.substring(0, length);
            check.due("the name " + part, Check.kinds(part), "!" + length);
            check.due("the name ab" + part, Check.kinds("ab" + part), "!" + (length + 2));
        }
        check.sentence("REFUSED: the byte that can't stand there: in a name's escape");
        for (int length = 1; length < whole.length(); length++) {
            for (char wrong : new char[] {'/', ':', '@', 'G', '`', 'g', 'U', 'x', ' ', '\n', '\\', '\'', 0, 255}) {
                String text = whole.substring(0, length) + wrong + "1111";
                check.due("the name " + text, Check.kinds(text), "!" + length);
            }
        }
        for (char right : "09afAF".toCharArray()) {
            check.due("a digit of an escape, " + right, Check.kinds("\\u00" + (right <= '9' ? "6" : "c") + right), right == '0' ? "!0" : "1");
        }
    }

    private static void words(Check check) {
        check.sentence("WORDS: 0 break .. 44 yield");
        check.due("how many words", WORDS.length, 45);
        for (int n = 0; n < WORDS.length; n++) {
            String word = WORDS[n];
            check.dueToken(word, Check.begun(word), 1, 0, word.length(), 0, n, 0, 0, word.length(), 0);
            check.dueUnits(word, word);
        }
    }

    private static void wordsWithEscapes(Check check) {
        check.sentence("A word with an escape in it is a name with that word's number as well");
        for (int n = 0; n < WORDS.length; n++) {
            String word = WORDS[n];
            for (int k = 0; k < word.length(); k++) {
                String text = word.substring(0, k) + Check.escape(word.charAt(k)) + word.substring(k + 1);
                check.dueToken(text, Check.begun(text), 1, 0, word.length() + 5, 0, n, 1, 0, word.length(), 0);
                check.dueUnits(text, word);
            }
        }
    }

    private static void nearWords(Check check) {
        check.sentence("4 its word (-1 for none)");
        List<String> words = List.of(WORDS);
        for (String word : WORDS) {
            String[] near = {word + "0", word + "$", word + word, "_" + word, word.substring(1), word.substring(0, word.length() - 1), word.toUpperCase(), word.substring(0, 1).toUpperCase() + word.substring(1)};
            for (String name : near) {
                check.due("the word of " + name, Check.begun(name).token(4), words.indexOf(name));
            }
        }
        for (String text : new String[] {"'if'", "\"yield\"", "1", "(", "", "/if/"}) {
            check.due("the word of " + text, Check.begun(text).token(4), -1);
        }
    }

    private static void longestOnes(Check check) {
        check.sentence("Names up to 2,000 bytes");
        TokenScanner plain = Check.begun("z".repeat(2000));
        check.dueToken("2,000 letters", plain, 1, 0, 2000, 0, -1, 0, 0, 2000, 0);
        check.due("the last unit", plain.unit(1999), (int) 'z');
        check.due("none behind it", Check.of(() -> plain.unit(2000)), Check.INDEX);
        TokenScanner escaped = Check.begun("\\u0061".repeat(333) + "bc");
        check.dueToken("333 escapes", escaped, 1, 0, 2000, 0, -1, 1, 0, 335, 0);
        check.due("an escape that the text's end cuts", Check.kinds("\\u0061".repeat(333) + "\\u"), "!2000");
    }
}
