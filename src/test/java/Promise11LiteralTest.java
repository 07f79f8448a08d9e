/** Promise 11: literal keeps a number, text or pattern, each time anew, within its limits. */
public final class Promise11LiteralTest {
    public static void main(String[] args) {
        Check check = new Check();
        numbering(check);
        unitLimit(check);
        check.done();
    }

    private static void numbering(Check check) {
        TokenScanner x = Check.begun("1 '1' 'a\\x62' a + if /x/g ''");
        check.due("a number", x.literal(), 0);
        check.due("each anew", x.literal(), 1);
        x.next();
        check.due("a text of the same units", x.literal(), 2);
        x.next();
        check.due("a text", x.literal(), 3);
        x.next();
        check.due("a name", Check.of(x::literal), Check.STATE);
        x.next();
        check.due("a sign", Check.of(x::literal), Check.STATE);
        x.next();
        check.due("a word", Check.of(x::literal), Check.STATE);
        x.next();
        check.due("a / that is no pattern", Check.of(x::literal), Check.STATE);
        x.pattern();
        check.due("a pattern", x.literal(), 4);
        x.next();
        check.due("an empty text", x.literal(), 5);
        x.next();
        check.due("the END", Check.of(x::literal), Check.STATE);
        String[] due = {"1", "1", "1", "ab", "/x/g", ""};
        for (int n = 0; n < due.length; n++) {
            check.due("literal " + n, Check.kept(x, true, n), due[n]);
        }
        check.due("no name by it", Check.of(() -> x.text(false, 0, -1)), Check.INDEX);
        x.end();
        check.due("without a token", Check.of(x::literal), Check.STATE);
    }

    private static void unitLimit(Check check) {
        TokenScanner x = Check.begun("'" + "a".repeat(1900) + "' '" + "b".repeat(59) + "' 1 12 ''");
        for (int k = 0; k < 4; k++) {
            check.due("1,900 units", x.literal(), k);
        }
        check.due("9,500 units", Check.of(x::literal), Check.STATE);
        check.due("no such literal", Check.of(() -> x.text(true, 4, -1)), Check.INDEX);
        x.next();
        for (int k = 4; k < 14; k++) {
            check.due("59 units", x.literal(), k);
        }
        check.due("8,249 units", Check.of(x::literal), Check.STATE);
        x.next();
        check.due("8,191 units", x.literal(), 14);
        x.next();
        check.due("8,193 units", Check.of(x::literal), Check.STATE);
        check.due("a name of it", x.name(), 0);
        x.next();
        check.due("8,191 units", x.literal(), 15);
        x.end();
        Check.feed(x, "1");
        x.begin();
        check.due("room anew", x.literal(), 0);
        fillToTheLast(check);
    }

    private static void fillToTheLast(Check check) {
        TokenScanner x = Check.begun("'" + "a".repeat(1024) + "'1");
        for (int k = 0; k < 8; k++) {
            check.due("1,024 units", x.literal(), k);
        }
        check.due("the last of 8,192 units", x.text(true, 7, 1023), (int) 'a');
        x.next();
        check.due("8,193 units", Check.of(x::literal), Check.STATE);
    }
}
