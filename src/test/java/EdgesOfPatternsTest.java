/** The edges of the sentences on patterns (TOKENS, KINDS, promise 5). */
public final class EdgesOfPatternsTest {
    public static void main(String[] args) {
        Check check = new Check();
        fromThatSlashOn(check);
        bodies(check);
        classes(check);
        lettersBehindIt(check);
        escapesBehindIt(check);
        missingParts(check);
        everyByte(check);
        longestOnes(check);
        check.done();
    }

    private static void pattern(Check check, String text, String units) {
        TokenScanner x = Check.begun(text);
        check.due("pattern of " + text, Check.of(x::pattern), 5);
        check.dueToken(text, x, 5, 0, units.length(), 0, -1, 0, 0, units.length(), 0);
        check.due("units of " + text, Check.of(() -> Check.units(x)), units);
    }

    private static void fromThatSlashOn(Check check) {
        check.sentence("A PATTERN, when it is asked for where / or /= stands, from that / on");
        pattern(check, "/a/", "/a/");
        pattern(check, "/=/", "/=/");
        pattern(check, "/==/", "/==/");
        pattern(check, "/ /", "/ /");
        check.dueKinds("/a/", "414", "/=/", "44", "/==/", "444");
        check.dueKindsWithPatterns("a=/b/g/c/1", "1455", "a=/b/g /c", "145!9");
        TokenScanner x = Check.begun("a\n/=b/.c");
        x.next();
        check.dueToken("the sign", x, 4, 2, 4, 1, -1, 0, 52, 0, 0);
        check.due("pattern", x.pattern(), 5);
        check.dueToken("the pattern", x, 5, 2, 6, 1, -1, 0, 0, 4, 0);
        check.due("the token behind it", x.next(), 4);
        check.dueToken("the token behind it", x, 4, 6, 7, 0, -1, 0, 66, 0, 0);
    }

    private static void bodies(Check check) {
        check.sentence("as in 7.8.5");
        pattern(check, "/\\*/", "/\\*/");
        pattern(check, "/a*/", "/a*/");
        pattern(check, "/a//b", "/a/");
        pattern(check, "/\\//", "/\\//");
        pattern(check, "/\\\\/", "/\\\\/");
        pattern(check, "/\\\\//", "/\\\\/");
        pattern(check, "/)(/", "/)(/");
        pattern(check, "/'\"/", "/'\"/");
        pattern(check, "/\\u00/", "/\\u00/");
        pattern(check, "/\\1\\x/", "/\\1\\x/");
    }

    private static void classes(Check check) {
        check.sentence("classes in brackets may hold /");
        pattern(check, "/[/]/", "/[/]/");
        pattern(check, "/[///]/", "/[///]/");
        pattern(check, "/[]/", "/[]/");
        pattern(check, "/[[]/]/", "/[[]/");
        pattern(check, "/[\\]/]/", "/[\\]/]/");
        pattern(check, "/[\\\\]/]/", "/[\\\\]/");
        pattern(check, "/\\[/]/", "/\\[/");
        pattern(check, "/]/]/", "/]/");
        pattern(check, "/[a][/]/", "/[a][/]/");
        pattern(check, "/=[/]/", "/=[/]/");
    }

    private static void lettersBehindIt(Check check) {
        check.sentence("with the letters and digits behind it");
        for (int c = 0; c < 256; c++) {
            if (c != '\\') {
                boolean belongs = Check.isLetter(c) || Check.isDigit(c);
                pattern(check, "/a/" + (char) c + ".", belongs ? "/a/" + (char) c : "/a/");
                pattern(check, "/a/g" + (char) c + ".", belongs ? "/a/g" + (char) c : "/a/g");
            }
        }
        pattern(check, "/a/ g", "/a/");
        pattern(check, "/a/\ng", "/a/");
        pattern(check, "/a//**/g", "/a/");
        pattern(check, "/a/gimgim0", "/a/gimgim0");
    }

    private static void escapesBehindIt(Check check) {
        check.sentence("an escape there is refused");
        check.dueKindsWithPatterns("/a/\\u0067", "!3", "/a/g\\u0067", "!4", "/a/0\\u0067i", "!4", "/a/\\", "!3", "/a/\\\n", "!3", "a=/b/\\u0067", "14!5", "/=/\\u0067", "!3");
        check.dueKindsWithPatterns("/a/ \\u0067", "51", "/a/.\\u0067", "541");
    }

    private static void missingParts(Check check) {
        check.sentence("REFUSED: the text's end where something is missing there: in a pattern");
        check.dueKindsWithPatterns("/", "!1", "/=", "!2", "/a", "!2", "/\\", "!2", "/\\/", "!3", "/[", "!2", "/[/", "!3", "/[]", "!3", "/[\\", "!3", "/[\\]", "!4", "/[\\]/", "!5", "/ ", "!2", "a/", "1!2", "/a/ /", "5!5");
        check.sentence("REFUSED: the byte that can't stand there: a line end in a pattern");
        for (String end : new String[] {"\n", "\r", "\r\n"}) {
            check.dueKindsWithPatterns("/" + end + "/", "!1", "/=" + end + "/", "!2", "/a" + end + "/", "!2", "/\\" + end + "/", "!2", "/[" + end + "]/", "!2", "/[\\" + end + "]/", "!3", "x/" + end, "1!2");
        }
    }

    private static void everyByte(Check check) {
        check.sentence("of a number and a pattern those of its bytes");
        for (int c = 0; c < 256; c++) {
            if (!Check.isLineEnd(c)) {
                pattern(check, "/\\" + (char) c + "/", "/\\" + (char) c + "/");
                pattern(check, "/[\\" + (char) c + "]/", "/[\\" + (char) c + "]/");
                if ("[/\\".indexOf(c) < 0) {
                    pattern(check, "/a" + (char) c + "/", "/a" + (char) c + "/");
                }
                if ("]\\".indexOf(c) < 0) {
                    pattern(check, "/[" + (char) c + "]/", "/[" + (char) c + "]/");
                }
            }
        }
    }

    private static void longestOnes(Check check) {
        check.sentence("Patterns up to 2,000 bytes");
        TokenScanner x = Check.begun("/" + "a".repeat(998) + "/" + "g".repeat(1000));
        check.due("pattern", Check.of(x::pattern), 5);
        check.dueToken("2,000 bytes", x, 5, 0, 2000, 0, -1, 0, 0, 2000, 0);
        check.due("the last unit", x.unit(1999), (int) 'g');
        check.due("none behind it", Check.of(() -> x.unit(2000)), Check.INDEX);
        check.due("its / is missing", Check.kindsWithPatterns("/" + "a".repeat(1999)), "!2000");
        check.due("an escape behind 1,999", Check.kindsWithPatterns("/" + "a".repeat(1997) + "/\\"), "!1999");
    }
}
