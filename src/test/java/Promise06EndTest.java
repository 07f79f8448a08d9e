/** Promise 6: end uses the text up. */
public final class Promise06EndTest {
    public static void main(String[] args) {
        Check check = new Check();
        TokenScanner x = Check.fed("a b");
        check.due("end before begin", Check.ofEnd(x), Check.STATE);
        check.due("the text stays", x.feed('c', 1), 4);
        x.begin();
        x.name();
        check.due("end", Check.ofEnd(x), "ends");
        check.due("end again", Check.ofEnd(x), Check.STATE);
        check.due("no token", Check.of(() -> x.token(0)), Check.STATE);
        check.due("no unit", Check.of(() -> x.unit(0)), Check.STATE);
        check.due("no name", Check.of(x::name), Check.STATE);
        check.due("the names stay", Check.kept(x, false, 0), "a");
        check.due("place", x.place(), -1);
        check.due("the text is used up", x.feed('#', 1), 1);
        check.due("begin", Check.of(x::begin), Check.ARGUMENT);
        check.due("end when it is refused", Check.ofEnd(x), Check.STATE);
        check.due("begin the empty text", x.begin(), 0);
        check.due("end at the END", Check.ofEnd(x), "ends");
        check.done();
    }
}
