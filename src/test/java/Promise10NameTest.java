/** Promise 10: name numbers units as names, the same units by the same number. */
public final class Promise10NameTest {
    public static void main(String[] args) {
        Check check = new Check();
        TokenScanner x = Check.begun("a b a '1' 1 1.0 \\u0061 'b' if '' \"\" ab '\\u0161' '\\x61'");
        int[] due = {0, 1, 0, 2, 2, 3, 0, 1, 4, 5, 5, 6, 7, 0};
        for (int k = 0; k < due.length; k++) {
            check.due("name of token " + k, x.name(), due[k]);
            check.due("once more", x.name(), due[k]);
            x.next();
        }
        check.due("name of the END", Check.of(x::name), Check.STATE);
        check.due("name 3", Check.kept(x, false, 3), "1.0");
        check.due("name 5", Check.kept(x, false, 5), "");
        check.due("no literal by it", Check.of(() -> x.text(true, 0, -1)), Check.INDEX);

        TokenScanner other = Check.begun("a b / c/");
        other.next();
        check.due("as they are asked for", other.name(), 0);
        other.next();
        check.due("name of a sign", Check.of(other::name), Check.STATE);
        other.pattern();
        check.due("name of a pattern", Check.of(other::name), Check.STATE);
        other.end();
        check.due("name without a token", Check.of(other::name), Check.STATE);
        check.due("still one", Check.of(() -> other.text(false, 1, -1)), Check.INDEX);
        manyNames(check);
        longNames(check);
        check.done();
    }

    private static void manyNames(Check check) {
        StringBuilder text = new StringBuilder();
        for (int k = 0; k < 250; k++) {
            text.append(k).append(' ');
        }
        TokenScanner x = Check.begun(text.toString());
        for (int k = 0; k < 150; k++) {
            check.due("name " + k, x.name(), k);
            x.next();
        }
        check.due("name 149", Check.kept(x, false, 149), "149");
        check.due("name 7", Check.kept(x, false, 7), "7");
    }

    private static void longNames(Check check) {
        String first = "a".repeat(1000);
        String second = "a".repeat(998) + "b";
        TokenScanner x = Check.begun(first + " " + second);
        check.due("a long name", x.name(), 0);
        x.next();
        check.due("another", x.name(), 1);
        check.due("again", x.name(), 1);
        check.due("its size", x.text(false, 1, -1), 999);
        check.due("its last unit", x.text(false, 1, 998), (int) 'b');
        check.due("the other's last unit", x.text(false, 0, 999), (int) 'a');
    }
}
