/** Promise 1: a new object has no text, no token, no name and no literal. */
public final class Promise01NewObjectTest {
    public static void main(String[] args) {
        Check check = new Check();
        TokenScanner x = new TokenScanner();
        check.due("place", x.place(), -1);
        check.due("next", Check.of(x::next), Check.STATE);
        check.due("pattern", Check.of(x::pattern), Check.STATE);
        check.due("end", Check.ofEnd(x), Check.STATE);
        check.due("token", Check.of(() -> x.token(0)), Check.STATE);
        check.due("unit", Check.of(() -> x.unit(0)), Check.STATE);
        check.due("name", Check.of(x::name), Check.STATE);
        check.due("literal", Check.of(x::literal), Check.STATE);
        check.due("a name's text", Check.of(() -> x.text(false, 0, -1)), Check.INDEX);
        check.due("a literal's text", Check.of(() -> x.text(true, 0, -1)), Check.INDEX);
        check.due("begin without a text", Check.of(x::begin), 0);
        check.due("behind it", x.token(2), 0);
        check.due("feed on another new object", new TokenScanner().feed(65, 1), 1);
        check.done();
    }
}
