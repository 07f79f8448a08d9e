/** Promise 3: begin tells the first token's kind and starts without names and literals. */
public final class Promise03BeginTest {
    public static void main(String[] args) {
        Check check = new Check();
        firstKinds(check);
        states(check);
        namesAndLiteralsGo(check);
        check.done();
    }

    private static void firstKinds(Check check) {
        String[] texts = {"", " \n//x", "a", "1", "'a'", "+", "/a/", "\\u0061", ".5", ".", "/=/"};
        int[] kinds = {0, 0, 1, 2, 3, 4, 4, 1, 2, 4, 4};
        for (int k = 0; k < texts.length; k++) {
            check.due("begin of " + texts[k], Check.fed(texts[k]).begin(), kinds[k]);
        }
    }

    private static void states(Check check) {
        TokenScanner x = Check.begun("a #");
        check.due("begin with a token", Check.of(x::begin), Check.STATE);
        check.due("the token stays", x.token(2), 1);
        TokenScanner atEnd = Check.begun("");
        check.due("begin at the END", Check.of(atEnd::begin), Check.STATE);
        TokenScanner refused = Check.fed("#");
        check.due("begin of a refused text", Check.of(refused::begin), Check.ARGUMENT);
        check.due("no token then", Check.of(() -> refused.token(0)), Check.STATE);
        check.due("the text is used up then", Check.of(refused::begin), 0);
        check.due("place of the empty text", refused.place(), -1);
        TokenScanner ended = Check.begun("a b");
        ended.end();
        check.due("begin when it is ended", ended.begin(), 0);
    }

    private static void namesAndLiteralsGo(Check check) {
        TokenScanner x = Check.begun("1");
        x.name();
        x.literal();
        check.due("begin with a token", Check.of(x::begin), Check.STATE);
        check.due("the name stays", x.text(false, 0, -1), 1);
        x.end();
        Check.feed(x, "#");
        check.due("the literal stays so long", x.text(true, 0, -1), 1);
        check.due("begin", Check.of(x::begin), Check.ARGUMENT);
        check.due("no name", Check.of(() -> x.text(false, 0, -1)), Check.INDEX);
        check.due("no literal", Check.of(() -> x.text(true, 0, -1)), Check.INDEX);
        Check.feed(x, "'bc'");
        x.begin();
        check.due("the numbers start anew", x.name() + x.literal(), 0);
        check.due("the new name", Check.kept(x, false, 0), "bc");
        check.due("the new literal", Check.kept(x, true, 0), "bc");
    }
}
