/** The edges of the sentences of promises 1 to 6, 8 and 9, and of the object's 512 calls. */
public final class EdgesOfCallsTest {
    public static void main(String[] args) {
        Check check = new Check();
        newObject(check);
        fedBytes(check);
        fedCounts(check);
        fedWithToken(check);
        fullText(check);
        begins(check);
        nexts(check);
        patterns(check);
        ends(check);
        whats(check);
        units(check);
        all512Calls(check);
        check.done();
    }

    private static void withoutToken(Check check, String when, TokenScanner x) {
        check.due("next " + when, Check.of(x::next), Check.STATE);
        check.due("pattern " + when, Check.of(x::pattern), Check.STATE);
        check.due("end " + when, Check.ofEnd(x), Check.STATE);
        check.due("unit " + when, Check.of(() -> x.unit(0)), Check.STATE);
        check.due("name " + when, Check.of(x::name), Check.STATE);
        check.due("literal " + when, Check.of(x::literal), Check.STATE);
        for (int what = 0; what <= 8; what++) {
            int asked = what;
            check.due("token " + what + " " + when, Check.of(() -> x.token(asked)), Check.STATE);
        }
    }

    private static void newObject(Check check) {
        check.sentence("TokenScanner(): No text");
        TokenScanner x = new TokenScanner();
        withoutToken(check, "of a new object", x);
        check.due("place", x.place(), -1);
        check.due("a name", Check.of(() -> x.text(false, 0, -1)), Check.INDEX);
        check.due("a literal", Check.of(() -> x.text(true, 0, -1)), Check.INDEX);
        check.due("begin", Check.of(x::begin), 0);
        check.dueToken("the END of no text", x, 0, 0, 0, 0, -1, 0, 0, 0, 0);
        check.due("the first bytes of another", new TokenScanner().feed(0, 8), 8);
        TokenScanner one = Check.begun("a");
        one.name();
        check.due("objects share nothing", Check.of(() -> new TokenScanner().text(false, 0, -1)), Check.INDEX);
    }

    private static void fedBytes(Check check) {
        check.sentence("n bytes more of the text (1 .. 8; the lowest n of bytes, the highest of these first)");
        long[] rows = {0x6162636465666768L, 0xE1E2E3E4E5E6E8E9L, 0xFFFFFFFFFFFFFFFFL, 0xC061C061C061C061L};
        for (long row : rows) {
            for (int n = 1; n <= 8; n++) {
                TokenScanner x = new TokenScanner();
                int fed = n;
                check.due("how many there are", Check.of(() -> x.feed(row, fed)), n);
                check.due("how many there are then", Check.of(() -> x.feed(row, fed)), 2 * n);
                x.begin();
                StringBuilder want = new StringBuilder();
                for (int k = 0; k < 2 * n; k++) {
                    want.append((char) (row >>> 8 * (n - 1 - k % n) & 255));
                }
                check.due("units of " + n + " of " + Long.toHexString(row), Check.units(x), want);
            }
        }
        TokenScanner zeros = Check.fed("'\0\0\0'");
        zeros.begin();
        check.due("bytes 0", Check.units(zeros), "\0\0\0");
        TokenScanner least = new TokenScanner();
        least.feed(Long.MIN_VALUE, 8);
        check.due("begin of 128 0 0 0 0 0 0 0", Check.of(least::begin), Check.ARGUMENT);
        check.due("place", least.place(), 0);
    }

    private static void fedCounts(Check check) {
        check.sentence("feed, IllegalArgumentException: n is not so");
        TokenScanner x = new TokenScanner();
        for (int n : new int[] {0, 9, -1, 10, 16, -8, 256, 257, Integer.MAX_VALUE, Integer.MIN_VALUE}) {
            check.due("feed of " + n, Check.of(() -> x.feed(0x4141414141414141L, n)), Check.ARGUMENT);
        }
        check.due("no byte by them", Check.of(() -> x.feed('b', 1)), 1);
        x.begin();
        check.due("units", Check.units(x), "b");
        check.due("a wrong n with a token", Check.of(() -> x.feed(65, 9)), Check.ARGUMENT);
    }

    private static void fedWithToken(Check check) {
        check.sentence("feed, IllegalStateException: there is a token");
        TokenScanner x = Check.begun("a /b/");
        check.due("with a name", Check.of(() -> x.feed('c', 1)), Check.STATE);
        x.next();
        check.due("with a sign", Check.of(() -> x.feed('c', 1)), Check.STATE);
        x.pattern();
        check.due("with a pattern", Check.of(() -> x.feed('c', 8)), Check.STATE);
        check.due("next", Check.of(x::next), 0);
        check.due("no byte by them", x.token(1), 5);
        check.due("with the END", Check.of(() -> x.feed('c', 1)), Check.STATE);
        x.end();
        check.due("without", Check.of(() -> x.feed('c', 1)), 1);
    }

    private static void fullText(Check check) {
        check.sentence("feed, IllegalStateException: there would be more than 2,000");
        for (int n = 1; n <= 8; n++) {
            TokenScanner x = Check.fed("a".repeat(2000 - n));
            int fits = n;
            long row = 0x6262626262626262L;
            for (int over = n + 1; over <= 8; over++) {
                int tooMany = over;
                check.due(over + " where there is room for " + n, Check.of(() -> x.feed(row, tooMany)), Check.STATE);
            }
            check.due("just 2,000", Check.of(() -> x.feed(row, fits)), 2000);
            for (int over = 1; over <= 8; over++) {
                int tooMany = over;
                check.due(over + " more than 2,000", Check.of(() -> x.feed(row, tooMany)), Check.STATE);
            }
            check.due("a wrong n when it is full", Check.of(() -> x.feed(row, 0)), Check.ARGUMENT);
            check.due("begin", Check.of(x::begin), 1);
            check.due("how many units", x.token(7), 2000);
            check.due("the last byte of the first ones", x.unit(1999 - n), (int) 'a');
            check.due("the first byte of the last ones", x.unit(2000 - n), (int) 'b');
            check.due("the last byte", x.unit(1999), (int) 'b');
            x.end();
            check.due("room anew", Check.of(() -> x.feed(row, 8)), 8);
        }
    }

    private static void begins(Check check) {
        check.sentence("begin, IllegalStateException: there is a token (this first)");
        TokenScanner x = Check.begun("a #");
        check.due("begin, where the next token is refused", Check.of(x::begin), Check.STATE);
        check.due("begin again", Check.of(x::begin), Check.STATE);
        check.due("place", x.place(), -1);
        check.dueToken("the token stays", x, 1, 0, 1, 0, -1, 0, 0, 1, 0);
        TokenScanner atEnd = Check.begun("");
        check.due("begin with the END", Check.of(atEnd::begin), Check.STATE);
        check.due("the END stays", atEnd.token(0), 0);
        check.sentence("begin, IllegalArgumentException: it is refused");
        for (String text : new String[] {"#", "'", "01", "\\", "/*", "1e"}) {
            TokenScanner refused = Check.fed(text);
            check.due("begin of " + text, Check.of(refused::begin), Check.ARGUMENT);
            withoutToken(check, "behind " + text, refused);
        }
    }

    private static void nexts(Check check) {
        check.sentence("next, IllegalStateException: there is no token, or it is the END (this first)");
        TokenScanner fed = Check.fed("# a");
        check.due("next of a text that is not begun", Check.of(fed::next), Check.STATE);
        check.due("place", fed.place(), -1);
        check.due("it is not used up", Check.of(() -> fed.feed('b', 1)), 4);
        check.due("begin", Check.of(fed::begin), Check.ARGUMENT);
        check.due("next of a text that is refused", Check.of(fed::next), Check.STATE);
        TokenScanner x = Check.begun("a");
        check.due("next to the END", Check.of(x::next), 0);
        check.due("next of the END", Check.of(x::next), Check.STATE);
        check.due("next of the END again", Check.of(x::next), Check.STATE);
        check.dueToken("the END stays", x, 0, 1, 1, 0, -1, 0, 0, 0, 0);
        check.due("place", x.place(), -1);
        x.end();
        check.due("next of a text that is ended", Check.of(x::next), Check.STATE);
        check.sentence("next, IllegalArgumentException: it is refused");
        for (String text : new String[] {"a#", "a'", "a 01", "a \\", "a/*", "a 1e"}) {
            TokenScanner refused = Check.begun(text);
            check.due("next of " + text, Check.of(refused::next), Check.ARGUMENT);
            withoutToken(check, "behind " + text, refused);
        }
    }

    private static void patterns(Check check) {
        check.sentence("pattern, IllegalStateException: there is no such token (this first)");
        TokenScanner fed = Check.fed("/a");
        check.due("pattern of a text that is not begun", Check.of(fed::pattern), Check.STATE);
        check.due("place", fed.place(), -1);
        check.due("begin", Check.of(fed::begin), 4);
        for (String text : new String[] {"", "a /b", "1/b", "'/b'/b", "=/b", "*/b", "*=/b", "%=/b", "./b", "'/'", "/**/", "//"}) {
            TokenScanner x = Check.begun(text);
            int behind = x.token(2);
            check.due("pattern of " + text, Check.of(x::pattern), Check.STATE);
            check.due("place", x.place(), -1);
            check.due("the token stays", x.token(2), behind);
        }
        TokenScanner twice = Check.begun("/a/ /b");
        check.due("pattern", Check.of(twice::pattern), 5);
        check.due("pattern of a pattern", Check.of(twice::pattern), Check.STATE);
        check.dueToken("it stays", twice, 5, 0, 3, 0, -1, 0, 0, 3, 0);
        check.sentence("pattern, IllegalArgumentException: it is refused");
        for (String text : new String[] {"/", "/=", "/a", "/a\n/", "/[/", "/a/\\u0067"}) {
            TokenScanner refused = Check.begun(text);
            check.due("pattern of " + text, Check.of(refused::pattern), Check.ARGUMENT);
            withoutToken(check, "behind " + text, refused);
        }
    }

    private static void ends(Check check) {
        check.sentence("end, IllegalStateException: there is no token");
        TokenScanner x = Check.fed("ab");
        check.due("end of a text that is not begun", Check.ofEnd(x), Check.STATE);
        check.due("it is not used up", Check.of(() -> x.feed('c', 1)), 3);
        check.due("begin", Check.of(x::begin), 1);
        check.due("units", Check.units(x), "abc");
        check.due("end", Check.ofEnd(x), "ends");
        check.due("end again", Check.ofEnd(x), Check.STATE);
        withoutToken(check, "when it is ended", x);
    }

    private static void whats(Check check) {
        check.sentence("token, IllegalArgumentException: there is no such what");
        int[] wrong = {-1, 9, -2, 10, 100, Integer.MIN_VALUE, Integer.MAX_VALUE};
        TokenScanner x = Check.begun("a");
        for (int what : wrong) {
            check.due("token " + what, Check.of(() -> x.token(what)), Check.ARGUMENT);
        }
        check.dueToken("the token stays", x, 1, 0, 1, 0, -1, 0, 0, 1, 0);
        x.end();
        for (int what : wrong) {
            check.due("token " + what + " without a token", Check.of(() -> x.token(what)), Check.ARGUMENT);
        }
        check.sentence("5 whether an escape, or (of a text) a line's end behind a backslash, stands in it (of a name or text; 1, 0)");
        TokenScanner escapes = Check.begun("\\u0061 a '\\a' 'a' '\\\n' 1 + /\\a/ b");
        int[] due = {1, 0, 1, 0, 1, 0, 0, 0, 0, 0};
        for (int k = 0; k < due.length; k++) {
            if (escapes.token(6) == 22) {
                escapes.pattern();
            }
            check.due("token 5 of token " + k, escapes.token(5), due[k]);
            Check.of(escapes::next);
        }
    }

    private static void units(Check check) {
        check.sentence("unit, IndexOutOfBoundsException: there is none");
        TokenScanner x = Check.begun("abc d '' + 12 /e/");
        int[] sizes = {3, 1, 0, 0, 2, 3, 0};
        for (int size : sizes) {
            if (x.token(6) == 22) {
                x.pattern();
            }
            check.due("how many units", x.token(7), size);
            for (int i : new int[] {-1, size, size + 1, 2000, Integer.MIN_VALUE, Integer.MAX_VALUE}) {
                check.due("unit " + i + " of " + size, Check.of(() -> x.unit(i)), Check.INDEX);
            }
            if (size > 0) {
                check.due("the first unit", Check.of(() -> x.unit(0)).startsWith("throws"), false);
                check.due("the last unit", Check.of(() -> x.unit(size - 1)).startsWith("throws"), false);
            }
            Check.of(x::next);
        }
        x.end();
        check.sentence("unit, IllegalStateException: there is no token");
        for (int i : new int[] {-1, 0, 1, Integer.MIN_VALUE, Integer.MAX_VALUE}) {
            check.due("unit " + i + " without a token", Check.of(() -> x.unit(i)), Check.STATE);
        }
    }

    private static void all512Calls(Check check) {
        check.sentence("An object is used for at most 512 calls after it has been made");
        TokenScanner x = new TokenScanner();
        for (int call = 1; call <= 250; call++) {
            check.due("feed", Check.of(() -> x.feed(0x2B2B2B2B2B2B2B2BL, 8)), 8 * call);
        }
        check.due("begin", Check.of(x::begin), 4);
        for (int call = 252; call <= 511; call++) {
            check.due("next", Check.of(x::next), 4);
        }
        check.due("the 512th call", Check.of(() -> x.token(1)), 520);
    }
}
