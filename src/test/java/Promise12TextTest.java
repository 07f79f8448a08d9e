/** Promise 12: text tells the units of literals and names. */
public final class Promise12TextTest {
    public static void main(String[] args) {
        Check check = new Check();
        TokenScanner x = Check.begun("'abc' de '' '\\u1234'");
        x.literal();
        x.next();
        x.name();
        x.next();
        x.literal();
        x.name();
        x.next();
        x.literal();
        check.due("size of a literal", x.text(true, 0, -1), 3);
        check.due("its first unit", x.text(true, 0, 0), (int) 'a');
        check.due("its last unit", x.text(true, 0, 2), (int) 'c');
        check.due("size of a name", x.text(false, 0, -1), 2);
        check.due("its last unit", x.text(false, 0, 1), (int) 'e');
        check.due("an empty literal", x.text(true, 1, -1), 0);
        check.due("an empty name", x.text(false, 1, -1), 0);
        check.due("a unit above 255", x.text(true, 2, 0), 0x1234);
        wrongOnes(check, x);
        x.end();
        check.due("when it is ended", x.text(true, 0, 1), (int) 'b');
        wrongOnes(check, x);
        Check.feed(x, "1 #");
        check.due("while one is fed", x.text(false, 0, 0), (int) 'd');
        x.begin();
        check.due("gone when one is begun", Check.of(() -> x.text(true, 0, -1)), Check.INDEX);
        x.literal();
        check.due("refused", Check.of(x::next), Check.ARGUMENT);
        check.due("it stays when it is refused", x.text(true, 0, 0), (int) '1');
        check.done();
    }

    private static void wrongOnes(Check check, TokenScanner x) {
        int[] wrong = {-2, 3, 100, 9000, Integer.MAX_VALUE, Integer.MIN_VALUE};
        for (int w : wrong) {
            check.due("literal " + w, Check.of(() -> x.text(true, w, -1)), Check.INDEX);
            check.due("name " + w, Check.of(() -> x.text(false, w, -1)), Check.INDEX);
            check.due("literal's unit " + w, Check.of(() -> x.text(true, 0, w)), Check.INDEX);
            check.due("name's unit " + w, Check.of(() -> x.text(false, 0, w)), Check.INDEX);
        }
        check.due("name 2", Check.of(() -> x.text(false, 2, -1)), Check.INDEX);
        check.due("literal -1", Check.of(() -> x.text(true, -1, -1)), Check.INDEX);
        check.due("name -1", Check.of(() -> x.text(false, -1, 0)), Check.INDEX);
        check.due("name's unit 2", Check.of(() -> x.text(false, 0, 2)), Check.INDEX);
        check.due("an empty one's unit 0", Check.of(() -> x.text(true, 1, 0)), Check.INDEX);
    }
}
